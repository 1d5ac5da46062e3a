/-! the reference, 4 -/
noncomputable def BX12_goings_0 (J22 : Int32 → Int32 → Int32 → Int32 → ea_H → Option (Unit × ea_H)) (x1 : Int32) (h : ea_H) : Option (Unit × ea_H) :=
  (gd (vp_in x1 1000) (ea_let (ea_i h 338 (Int32.toNatClampNeg x1)) fun (v2 : Int32) => (gd (vp_in x1 1000) (Option.bind (qX12_townOf (v2 : Int32) ((ea_i h 339 (Int32.toNatClampNeg x1)) : Int32) h) fun w4 => (J22 (x1 : Int32) (v2 : Int32) (w4.1 : Int32) (0 : Int32) w4.2)))))
set_option maxRecDepth 100000 in
set_option maxHeartbeats 0 in
theorem tBX12_goings_0 {d : Nat} {h0 : ea_H} (hd : 2 ≤ d) {J22 : Int32 → Int32 → Int32 → Int32 → ea_H → Option (Unit × ea_H)}  (kJ22 : ∀ (x1 : Int32) (x2 : Int32) (x3 : Int32) (x4 : Int32) (h : ea_H) (r : Unit) (h' : ea_H), J22 x1 x2 x3 x4 h = some (r, h') → ShM h → ea_W mX12_goings d h0 none h' 22 [(0, vR (some 326)), (1, vI x1), (2, vI x2), (3, vI x3), (4, vI x4)] [] h) {x1 : Int32} {h : ea_H} {r : Unit} {h' : ea_H} (E : BX12_goings_0 J22 x1 h = some (r, h')) (hs : ShM h) : ea_W mX12_goings d h0 none h' 0 [(0, vR (some 326)), (1, vI x1)] [] h := by
  unfold BX12_goings_0 at E
  obtain ⟨z1, E⟩ := gd_some E
  refine ea_aload_n (pc := 0) dX12_goings_0 rfl 0 rfl ?_
  refine ea_getR (pc := 1) dX12_goings_1 ec_12 (k := 16) (Nat.le_of_ble_eq_true rfl) rfl (Or.inl ew_1418) (cShM_326 hs).1 (cShM_326 hs).2.1 (rShM_326_16 hs) ?_
  refine ea_iload_n (pc := 4) dX12_goings_4 rfl 1 rfl ?_
  obtain ⟨v2, ev2, E⟩ := let_some E
  refine ea_iald (pc := 5) dX12_goings_5 (cShM_338 hs).1 (cShM_338 hs).2.1 (ea_vpl (cShM_338 hs).2.2 z1) ?_
  obtain ⟨z3, E⟩ := gd_some E
  refine ea_istore_n (pc := 6) (lv' := [(0, vR (some 326)), (1, vI x1), (2, vI v2)]) dX12_goings_6 rfl (Nat.le_of_ble_eq_true rfl) [1, 2, 0] (by rw [ev2]; rfl) ?_
  refine ea_aload_n (pc := 7) dX12_goings_7 rfl 0 rfl ?_
  refine ea_iload_n (pc := 8) dX12_goings_8 rfl 2 rfl ?_
  refine ea_aload_n (pc := 9) dX12_goings_9 rfl 0 rfl ?_
  refine ea_getR (pc := 10) dX12_goings_10 ec_12 (k := 17) (Nat.le_of_ble_eq_true rfl) rfl (Or.inl ew_1419) (cShM_326 hs).1 (cShM_326 hs).2.1 (rShM_326_17 hs) ?_
  refine ea_iload_n (pc := 13) dX12_goings_13 rfl 1 rfl ?_
  obtain ⟨w4, Ew4, E⟩ := bd_some E
  have hsw4 : ShM w4.2 := ShM_core ((kpX12_townOf _ _ _) _ Ew4) hs
  refine ea_iald (pc := 14) dX12_goings_14 (cShM_339 hs).1 (cShM_339 hs).2.1 (ea_vpl (cShM_339 hs).2.2 z3) ?_
  refine ea_callV (pc := 15) (d' := d - 1) (As := [vI v2, vI (ea_i h 339 (Int32.toNatClampNeg x1))]) (st := []) dX12_goings_15 kX12_townOf (sX12_townOf (d := d - 1) (by omega) hs Ew4) (by omega) rfl (Nat.le_of_ble_eq_true rfl) ew_1855 ew_1857 ew_67 (ci := 12) rfl (by decide) (cShM_326 hs).1 (cShM_326 hs).2.1 ?_
  refine ea_istore_n (pc := 18) (lv' := [(0, vR (some 326)), (1, vI x1), (2, vI v2), (3, vI w4.1)]) dX12_goings_18 rfl (Nat.le_of_ble_eq_true rfl) [1, 2, 3, 0] rfl ?_
  refine ea_iconst (pc := 19) dX12_goings_19 (v := 0) rfl ?_
  refine ea_istore (pc := 20) (lv' := [(0, vR (some 326)), (1, vI x1), (2, vI v2), (3, vI w4.1), (4, vI 0)]) dX12_goings_20 (Nat.le_of_ble_eq_true rfl) [1, 2, 3, 4, 0] rfl ?_
  exact (kJ22 (x1 : Int32) (v2 : Int32) (w4.1 : Int32) (0 : Int32) w4.2 _ _ E hsw4)
set_option maxRecDepth 100000 in
set_option maxHeartbeats 0 in
theorem kBX12_goings_0 {J22 : Int32 → Int32 → Int32 → Int32 → ea_H → Option (Unit × ea_H)}  (cJ22 : ∀ (x1 : Int32) (x2 : Int32) (x3 : Int32) (x4 : Int32) (h : ea_H), kp (ea_core h) (J22 x1 x2 x3 x4 h)) {x1 : Int32} {h : ea_H} : kp (ea_core h) (BX12_goings_0 J22 x1 h) :=
  (kp_gd (kp_let (kp_gd (kp_bind (kp_tw (kpX12_townOf _ _ _) rfl) fun w4 hcw4 => (kp_tw (cJ22 _ _ _ _ _) hcw4)))))
set_option maxRecDepth 100000 in
set_option maxHeartbeats 0 in
theorem lBX12_goings_0 {J22 : Int32 → Int32 → Int32 → Int32 → ea_H → Option (Unit × ea_H)} {J22_ : Int32 → Int32 → Int32 → Int32 → ea_H → Option (Unit × ea_H)}  (mJ22 : ∀ (x1 : Int32) (x2 : Int32) (x3 : Int32) (x4 : Int32) (h : ea_H), fle (J22 x1 x2 x3 x4 h) (J22_ x1 x2 x3 x4 h)) {x1 : Int32} {h : ea_H} : fle (BX12_goings_0 J22 x1 h) (BX12_goings_0 J22_ x1 h) :=
  (fle_gd (fle_let fun _ => (fle_gd (fle_bind (fle_rfl _) fun _ => (mJ22 _ _ _ _ _)))))
set_option maxRecDepth 100000 in
set_option maxHeartbeats 0 in
theorem nBX12_goings_0 {J22 : Int32 → Int32 → Int32 → Int32 → ea_H → Option (Unit × ea_H)} {J22_ : Nat → (Int32 → Int32 → Int32 → Int32 → ea_H → Option (Unit × ea_H))}  (mJ22 : ∀ (x1 : Int32) (x2 : Int32) (x3 : Int32) (x4 : Int32) (h : ea_H), fct (J22 x1 x2 x3 x4 h) (fun f => J22_ f x1 x2 x3 x4 h)) {x1 : Int32} {h : ea_H} : fct (BX12_goings_0 J22 x1 h) (fun f => BX12_goings_0 (J22_ f) x1 h) :=
  (fct_gd (fct_let fun _ => (fct_gd (fct_bind (fct_rfl _) fun _ => (mJ22 _ _ _ _ _)))))
noncomputable def BX12_goings_22 (J60 : Int32 → Int32 → Int32 → Int32 → Int32 → Int32 → ea_H → Option (Unit × ea_H)) (J320 : Int32 → Int32 → ea_H → Option (Unit × ea_H)) (x1 : Int32) (x2 : Int32) (x3 : Int32) (x4 : Int32) (h : ea_H) : Option (Unit × ea_H) :=
  (if (ea_i h 326 1) ≤ x4 then (gd (vp_in x3 12) (gd (vp_in x1 1000) (ea_let (ea_wi h 345 (Int32.toNatClampNeg x1) (ea_i h 346 (Int32.toNatClampNeg x3))) fun H7 => (gd (vp_in x3 12) (ea_let (ea_wi H7 346 (Int32.toNatClampNeg x3) x1) fun H9 => (J320 (x1 : Int32) (0 : Int32) H9)))))) else (ea_let (((12 : Int32) * x1) + x4) fun (v10 : Int32) => (gd (vp_in v10 12000) (ea_let (ea_wi h 341 (Int32.toNatClampNeg v10) 1000000) fun H12 => (gd (vp_in x1 1000) (ea_let ((ea_i H12 339 (Int32.toNatClampNeg x1)) + (1 : Int32)) fun (v14 : Int32) => (J60 (x1 : Int32) (x2 : Int32) (x3 : Int32) (x4 : Int32) (v10 : Int32) (v14 : Int32) H12)))))))
set_option maxRecDepth 100000 in
set_option maxHeartbeats 0 in
theorem tBX12_goings_22 {d : Nat} {h0 : ea_H} (hd : 2 ≤ d) {J60 : Int32 → Int32 → Int32 → Int32 → Int32 → Int32 → ea_H → Option (Unit × ea_H)} {J320 : Int32 → Int32 → ea_H → Option (Unit × ea_H)}  (kJ60 : ∀ (x1 : Int32) (x2 : Int32) (x3 : Int32) (x4 : Int32) (x5 : Int32) (x6 : Int32) (h : ea_H) (r : Unit) (h' : ea_H), J60 x1 x2 x3 x4 x5 x6 h = some (r, h') → ShM h → ea_W mX12_goings d h0 none h' 60 [(0, vR (some 326)), (1, vI x1), (2, vI x2), (3, vI x3), (4, vI x4), (5, vI x5), (6, vI x6)] [] h) (kJ320 : ∀ (x1 : Int32) (x4 : Int32) (h : ea_H) (r : Unit) (h' : ea_H), J320 x1 x4 h = some (r, h') → ShM h → ea_W mX12_goings d h0 none h' 320 [(0, vR (some 326)), (1, vI x1), (4, vI x4)] [] h) {x1 : Int32} {x2 : Int32} {x3 : Int32} {x4 : Int32} {h : ea_H} {r : Unit} {h' : ea_H} (E : BX12_goings_22 J60 J320 x1 x2 x3 x4 h = some (r, h')) (hs : ShM h) : ea_W mX12_goings d h0 none h' 22 [(0, vR (some 326)), (1, vI x1), (2, vI x2), (3, vI x3), (4, vI x4)] [] h := by
  unfold BX12_goings_22 at E
  refine ea_iload (pc := 22) dX12_goings_22 4 rfl ?_
  refine ea_aload_n (pc := 24) dX12_goings_24 rfl 0 rfl ?_
  refine ea_getI (pc := 25) dX12_goings_25 ec_12 (k := 1) (Nat.le_of_ble_eq_true rfl) rfl (Or.inl ew_1403) (cShM_326 hs).1 (cShM_326 hs).2.1 ?_
  refine ea_icmp_ge (pc := 28) (tgt := 298) dX12_goings_28 rfl (fun c15 => ?_) (fun c15 => ?_)
  · have E := (if_pos c15).symm.trans E
    obtain ⟨z5, E⟩ := gd_some E
    refine ea_aload_n (pc := 298) dX12_goings_298 rfl 0 rfl ?_
    refine ea_getR (pc := 299) dX12_goings_299 ec_12 (k := 23) (Nat.le_of_ble_eq_true rfl) rfl (Or.inl ew_1425) (cShM_326 hs).1 (cShM_326 hs).2.1 (rShM_326_23 hs) ?_
    refine ea_iload_n (pc := 302) dX12_goings_302 rfl 1 rfl ?_
    refine ea_aload_n (pc := 303) dX12_goings_303 rfl 0 rfl ?_
    refine ea_getR (pc := 304) dX12_goings_304 ec_12 (k := 24) (Nat.le_of_ble_eq_true rfl) rfl (Or.inl ew_1426) (cShM_326 hs).1 (cShM_326 hs).2.1 (rShM_326_24 hs) ?_
    refine ea_iload_n (pc := 307) dX12_goings_307 rfl 3 rfl ?_
    obtain ⟨z6, E⟩ := gd_some E
    refine ea_iald (pc := 308) dX12_goings_308 (cShM_346 hs).1 (cShM_346 hs).2.1 (ea_vpl (cShM_346 hs).2.2 z5) ?_
    obtain ⟨H7, eH7, E⟩ := let_some E
    refine ea_iast (pc := 309) dX12_goings_309 (cShM_345 hs).1 (cShM_345 hs).2.1 (ea_vpl (cShM_345 hs).2.2 z6) ?_
    refine ea_nm eH7 ?_
    have hsH7 : ShM H7 := by rw [eH7]; exact hs
    obtain ⟨z8, E⟩ := gd_some E
    refine ea_aload_n (pc := 310) dX12_goings_310 rfl 0 rfl ?_
    refine ea_getR (pc := 311) dX12_goings_311 ec_12 (k := 24) (Nat.le_of_ble_eq_true rfl) rfl (Or.inl ew_1426) (cShM_326 hsH7).1 (cShM_326 hsH7).2.1 (rShM_326_24 hsH7) ?_
    refine ea_iload_n (pc := 314) dX12_goings_314 rfl 3 rfl ?_
    refine ea_iload_n (pc := 315) dX12_goings_315 rfl 1 rfl ?_
    obtain ⟨H9, eH9, E⟩ := let_some E
    refine ea_iast (pc := 316) dX12_goings_316 (cShM_346 hsH7).1 (cShM_346 hsH7).2.1 (ea_vpl (cShM_346 hsH7).2.2 z8) ?_
    refine ea_nm eH9 ?_
    have hsH9 : ShM H9 := by rw [eH9]; exact hsH7
    refine ea_iconst (pc := 317) dX12_goings_317 (v := 0) rfl ?_
    refine ea_istore (pc := 318) (lv' := [(0, vR (some 326)), (1, vI x1), (4, vI 0)]) dX12_goings_318 (Nat.le_of_ble_eq_true rfl) [1, 2, 0] rfl ?_
    exact (kJ320 (x1 : Int32) (0 : Int32) H9 _ _ E hsH9)
  · have E := (if_neg c15).symm.trans E
    obtain ⟨v10, ev10, E⟩ := let_some E
    refine ea_bipush (pc := 31) dX12_goings_31 (v := 12) rfl ?_
    refine ea_iload_n (pc := 33) dX12_goings_33 rfl 1 rfl ?_
    refine ea_imul (pc := 34) dX12_goings_34 ?_
    refine ea_iload (pc := 35) dX12_goings_35 4 rfl ?_
    refine ea_iadd (pc := 37) dX12_goings_37 ?_
    obtain ⟨z11, E⟩ := gd_some E
    refine ea_istore (pc := 38) (lv' := [(0, vR (some 326)), (1, vI x1), (2, vI x2), (3, vI x3), (4, vI x4), (5, vI v10)]) dX12_goings_38 (Nat.le_of_ble_eq_true rfl) [1, 2, 3, 4, 5, 0] (by rw [ev10]; rfl) ?_
    refine ea_aload_n (pc := 40) dX12_goings_40 rfl 0 rfl ?_
    refine ea_getR (pc := 41) dX12_goings_41 ec_12 (k := 19) (Nat.le_of_ble_eq_true rfl) rfl (Or.inl ew_1421) (cShM_326 hs).1 (cShM_326 hs).2.1 (rShM_326_19 hs) ?_
    refine ea_iload (pc := 44) dX12_goings_44 5 rfl ?_
    refine ea_ldcw (pc := 46) dX12_goings_46 ew_1784 ?_
    obtain ⟨H12, eH12, E⟩ := let_some E
    refine ea_iast (pc := 49) dX12_goings_49 (cShM_341 hs).1 (cShM_341 hs).2.1 (ea_vpl (cShM_341 hs).2.2 z11) ?_
    refine ea_nm eH12 ?_
    have hsH12 : ShM H12 := by rw [eH12]; exact hs
    obtain ⟨z13, E⟩ := gd_some E
    refine ea_aload_n (pc := 50) dX12_goings_50 rfl 0 rfl ?_
    refine ea_getR (pc := 51) dX12_goings_51 ec_12 (k := 17) (Nat.le_of_ble_eq_true rfl) rfl (Or.inl ew_1419) (cShM_326 hsH12).1 (cShM_326 hsH12).2.1 (rShM_326_17 hsH12) ?_
    refine ea_iload_n (pc := 54) dX12_goings_54 rfl 1 rfl ?_
    obtain ⟨v14, ev14, E⟩ := let_some E
    refine ea_iald (pc := 55) dX12_goings_55 (cShM_339 hsH12).1 (cShM_339 hsH12).2.1 (ea_vpl (cShM_339 hsH12).2.2 z13) ?_
    refine ea_iconst (pc := 56) dX12_goings_56 (v := 1) rfl ?_
    refine ea_iadd (pc := 57) dX12_goings_57 ?_
    refine ea_istore (pc := 58) (lv' := [(0, vR (some 326)), (1, vI x1), (2, vI x2), (3, vI x3), (4, vI x4), (5, vI v10), (6, vI v14)]) dX12_goings_58 (Nat.le_of_ble_eq_true rfl) [1, 2, 3, 4, 5, 6, 0] (by rw [ev14]; rfl) ?_
    exact (kJ60 (x1 : Int32) (x2 : Int32) (x3 : Int32) (x4 : Int32) (v10 : Int32) (v14 : Int32) H12 _ _ E hsH12)
set_option maxRecDepth 100000 in
set_option maxHeartbeats 0 in
theorem kBX12_goings_22 {J60 : Int32 → Int32 → Int32 → Int32 → Int32 → Int32 → ea_H → Option (Unit × ea_H)} {J320 : Int32 → Int32 → ea_H → Option (Unit × ea_H)}  (cJ60 : ∀ (x1 : Int32) (x2 : Int32) (x3 : Int32) (x4 : Int32) (x5 : Int32) (x6 : Int32) (h : ea_H), kp (ea_core h) (J60 x1 x2 x3 x4 x5 x6 h)) (cJ320 : ∀ (x1 : Int32) (x4 : Int32) (h : ea_H), kp (ea_core h) (J320 x1 x4 h)) {x1 : Int32} {x2 : Int32} {x3 : Int32} {x4 : Int32} {h : ea_H} : kp (ea_core h) (BX12_goings_22 J60 J320 x1 x2 x3 x4 h) :=
  (kp_ite (kp_gd (kp_gd (kp_let (kp_gd (kp_let (kp_tw (cJ320 _ _ _) rfl)))))) (kp_let (kp_gd (kp_let (kp_gd (kp_let (kp_tw (cJ60 _ _ _ _ _ _ _) rfl)))))))
set_option maxRecDepth 100000 in
set_option maxHeartbeats 0 in
theorem lBX12_goings_22 {J60 : Int32 → Int32 → Int32 → Int32 → Int32 → Int32 → ea_H → Option (Unit × ea_H)} {J320 : Int32 → Int32 → ea_H → Option (Unit × ea_H)} {J60_ : Int32 → Int32 → Int32 → Int32 → Int32 → Int32 → ea_H → Option (Unit × ea_H)} {J320_ : Int32 → Int32 → ea_H → Option (Unit × ea_H)}  (mJ60 : ∀ (x1 : Int32) (x2 : Int32) (x3 : Int32) (x4 : Int32) (x5 : Int32) (x6 : Int32) (h : ea_H), fle (J60 x1 x2 x3 x4 x5 x6 h) (J60_ x1 x2 x3 x4 x5 x6 h)) (mJ320 : ∀ (x1 : Int32) (x4 : Int32) (h : ea_H), fle (J320 x1 x4 h) (J320_ x1 x4 h)) {x1 : Int32} {x2 : Int32} {x3 : Int32} {x4 : Int32} {h : ea_H} : fle (BX12_goings_22 J60 J320 x1 x2 x3 x4 h) (BX12_goings_22 J60_ J320_ x1 x2 x3 x4 h) :=
  (fle_ite (fle_gd (fle_gd (fle_let fun _ => (fle_gd (fle_let fun _ => (mJ320 _ _ _)))))) (fle_let fun _ => (fle_gd (fle_let fun _ => (fle_gd (fle_let fun _ => (mJ60 _ _ _ _ _ _ _)))))))
set_option maxRecDepth 100000 in
set_option maxHeartbeats 0 in
theorem nBX12_goings_22 {J60 : Int32 → Int32 → Int32 → Int32 → Int32 → Int32 → ea_H → Option (Unit × ea_H)} {J320 : Int32 → Int32 → ea_H → Option (Unit × ea_H)} {J60_ : Nat → (Int32 → Int32 → Int32 → Int32 → Int32 → Int32 → ea_H → Option (Unit × ea_H))} {J320_ : Nat → (Int32 → Int32 → ea_H → Option (Unit × ea_H))}  (mJ60 : ∀ (x1 : Int32) (x2 : Int32) (x3 : Int32) (x4 : Int32) (x5 : Int32) (x6 : Int32) (h : ea_H), fct (J60 x1 x2 x3 x4 x5 x6 h) (fun f => J60_ f x1 x2 x3 x4 x5 x6 h)) (mJ320 : ∀ (x1 : Int32) (x4 : Int32) (h : ea_H), fct (J320 x1 x4 h) (fun f => J320_ f x1 x4 h)) {x1 : Int32} {x2 : Int32} {x3 : Int32} {x4 : Int32} {h : ea_H} : fct (BX12_goings_22 J60 J320 x1 x2 x3 x4 h) (fun f => BX12_goings_22 (J60_ f) (J320_ f) x1 x2 x3 x4 h) :=
  (fct_ite (fct_gd (fct_gd (fct_let fun _ => (fct_gd (fct_let fun _ => (mJ320 _ _ _)))))) (fct_let fun _ => (fct_gd (fct_let fun _ => (fct_gd (fct_let fun _ => (mJ60 _ _ _ _ _ _ _)))))))
noncomputable def BX12_goings_60 (J22 : Int32 → Int32 → Int32 → Int32 → ea_H → Option (Unit × ea_H)) (J122 : Int32 → Int32 → Int32 → Int32 → Int32 → Int32 → Int32 → Int32 → Int32 → ea_H → Option (Unit × ea_H)) (x1 : Int32) (x2 : Int32) (x3 : Int32) (x4 : Int32) (x5 : Int32) (x6 : Int32) (h : ea_H) : Option (Unit × ea_H) :=
  (gd (vp_in (x2 / (7 : Int32)) 10) (if (ea_i h 328 (Int32.toNatClampNeg (x2 / (7 : Int32)))) ≤ x6 then (J22 (x1 : Int32) (x2 : Int32) (x3 : Int32) ((x4 + (1 : Int32)) : Int32) h) else (Option.bind (qX12_comesAt (x2 : Int32) (x6 : Int32) h) fun w17 => (if w17.1 ≤ (10079 : Int32) then (Option.bind (qX12_townOf (x2 : Int32) (x6 : Int32) w17.2) fun w18 => (if w18.1 = x4 then (J122 (x1 : Int32) (x2 : Int32) (x3 : Int32) (x4 : Int32) (x5 : Int32) (x6 : Int32) (w17.1 : Int32) (w18.1 : Int32) ((-1) : Int32) w18.2) else (Option.bind (qX12_going (w18.1 : Int32) (w17.1 : Int32) w18.2) fun w19 => (J122 (x1 : Int32) (x2 : Int32) (x3 : Int32) (x4 : Int32) (x5 : Int32) (x6 : Int32) (w17.1 : Int32) (w18.1 : Int32) (w19.1 : Int32) w19.2)))) else (J22 (x1 : Int32) (x2 : Int32) (x3 : Int32) ((x4 + (1 : Int32)) : Int32) w17.2)))))
set_option maxRecDepth 100000 in
set_option maxHeartbeats 0 in
theorem tBX12_goings_60 {d : Nat} {h0 : ea_H} (hd : 2 ≤ d) {J22 : Int32 → Int32 → Int32 → Int32 → ea_H → Option (Unit × ea_H)} {J122 : Int32 → Int32 → Int32 → Int32 → Int32 → Int32 → Int32 → Int32 → Int32 → ea_H → Option (Unit × ea_H)}  (kJ22 : ∀ (x1 : Int32) (x2 : Int32) (x3 : Int32) (x4 : Int32) (h : ea_H) (r : Unit) (h' : ea_H), J22 x1 x2 x3 x4 h = some (r, h') → ShM h → ea_W mX12_goings d h0 none h' 22 [(0, vR (some 326)), (1, vI x1), (2, vI x2), (3, vI x3), (4, vI x4)] [] h) (kJ122 : ∀ (x1 : Int32) (x2 : Int32) (x3 : Int32) (x4 : Int32) (x5 : Int32) (x6 : Int32) (x7 : Int32) (x8 : Int32) (sx0 : Int32) (h : ea_H) (r : Unit) (h' : ea_H), J122 x1 x2 x3 x4 x5 x6 x7 x8 sx0 h = some (r, h') → ShM h → ea_W mX12_goings d h0 none h' 122 [(0, vR (some 326)), (1, vI x1), (2, vI x2), (3, vI x3), (4, vI x4), (5, vI x5), (6, vI x6), (7, vI x7), (8, vI x8)] [vI sx0] h) {x1 : Int32} {x2 : Int32} {x3 : Int32} {x4 : Int32} {x5 : Int32} {x6 : Int32} {h : ea_H} {r : Unit} {h' : ea_H} (E : BX12_goings_60 J22 J122 x1 x2 x3 x4 x5 x6 h = some (r, h')) (hs : ShM h) : ea_W mX12_goings d h0 none h' 60 [(0, vR (some 326)), (1, vI x1), (2, vI x2), (3, vI x3), (4, vI x4), (5, vI x5), (6, vI x6)] [] h := by
  unfold BX12_goings_60 at E
  obtain ⟨z16, E⟩ := gd_some E
  refine ea_iload (pc := 60) dX12_goings_60 6 rfl ?_
  refine ea_aload_n (pc := 62) dX12_goings_62 rfl 0 rfl ?_
  refine ea_getR (pc := 63) dX12_goings_63 ec_12 (k := 4) (Nat.le_of_ble_eq_true rfl) rfl (Or.inl ew_1406) (cShM_326 hs).1 (cShM_326 hs).2.1 (rShM_326_4 hs) ?_
  refine ea_iload_n (pc := 66) dX12_goings_66 rfl 2 rfl ?_
  refine ea_bipush (pc := 67) dX12_goings_67 (v := 7) rfl ?_
  refine ea_idiv (pc := 69) dX12_goings_69 (by decide) ?_
  refine ea_iald (pc := 70) dX12_goings_70 (cShM_328 hs).1 (cShM_328 hs).2.1 (ea_vpl (cShM_328 hs).2.2 z16) ?_
  refine ea_icmp_ge (pc := 71) (tgt := 292) dX12_goings_71 rfl (fun c22 => ?_) (fun c22 => ?_)
  · have E := (if_pos c22).symm.trans E
    refine ea_iinc (pc := 292) (v := 1) (lv' := [(0, vR (some 326)), (1, vI x1), (2, vI x2), (3, vI x3), (4, vI (x4 + (1 : Int32)))]) dX12_goings_292 4 rfl rfl (Nat.le_of_ble_eq_true rfl) [1, 2, 3, 4, 0] rfl ?_
    refine ea_goto (pc := 295) (tgt := 22) dX12_goings_295 rfl ?_
    exact (kJ22 (x1 : Int32) (x2 : Int32) (x3 : Int32) ((x4 + (1 : Int32)) : Int32) h _ _ E hs)
  · have E := (if_neg c22).symm.trans E
    obtain ⟨w17, Ew17, E⟩ := bd_some E
    have hsw17 : ShM w17.2 := ShM_core ((kpX12_comesAt _ _ _) _ Ew17) hs
    refine ea_aload_n (pc := 74) dX12_goings_74 rfl 0 rfl ?_
    refine ea_iload_n (pc := 75) dX12_goings_75 rfl 2 rfl ?_
    refine ea_iload (pc := 76) dX12_goings_76 6 rfl ?_
    refine ea_callV (pc := 78) (d' := d - 1) (As := [vI x2, vI x6]) (st := []) dX12_goings_78 kX12_comesAt (sX12_comesAt (d := d - 1) (by omega) hs Ew17) (by omega) rfl (Nat.le_of_ble_eq_true rfl) ew_1819 ew_1821 ew_59 (ci := 12) rfl (by decide) (cShM_326 hs).1 (cShM_326 hs).2.1 ?_
    refine ea_istore (pc := 81) (lv' := [(0, vR (some 326)), (1, vI x1), (2, vI x2), (3, vI x3), (4, vI x4), (5, vI x5), (6, vI x6), (7, vI w17.1)]) dX12_goings_81 (Nat.le_of_ble_eq_true rfl) [1, 2, 3, 4, 5, 6, 7, 0] rfl ?_
    refine ea_iload (pc := 83) dX12_goings_83 7 rfl ?_
    refine ea_sipush (pc := 85) dX12_goings_85 (v := 10079) rfl ?_
    refine ea_icmp_le (pc := 88) (tgt := 94) dX12_goings_88 rfl (fun c21 => ?_) (fun c21 => ?_)
    · have E := (if_pos c21).symm.trans E
      obtain ⟨w18, Ew18, E⟩ := bd_some E
      have hsw18 : ShM w18.2 := ShM_core ((kpX12_townOf _ _ _) _ Ew18) hsw17
      refine ea_aload_n (pc := 94) dX12_goings_94 rfl 0 rfl ?_
      refine ea_iload_n (pc := 95) dX12_goings_95 rfl 2 rfl ?_
      refine ea_iload (pc := 96) dX12_goings_96 6 rfl ?_
      refine ea_callV (pc := 98) (d' := d - 1) (As := [vI x2, vI x6]) (st := []) dX12_goings_98 kX12_townOf (sX12_townOf (d := d - 1) (by omega) hsw17 Ew18) (by omega) rfl (Nat.le_of_ble_eq_true rfl) ew_1855 ew_1857 ew_67 (ci := 12) rfl (by decide) (cShM_326 hsw17).1 (cShM_326 hsw17).2.1 ?_
      refine ea_istore (pc := 101) (lv' := [(0, vR (some 326)), (1, vI x1), (2, vI x2), (3, vI x3), (4, vI x4), (5, vI x5), (6, vI x6), (7, vI w17.1), (8, vI w18.1)]) dX12_goings_101 (Nat.le_of_ble_eq_true rfl) [1, 2, 3, 4, 5, 6, 7, 8, 0] rfl ?_
      refine ea_iload (pc := 103) dX12_goings_103 8 rfl ?_
      refine ea_iload (pc := 105) dX12_goings_105 4 rfl ?_
      refine ea_icmp_ne (pc := 107) (tgt := 114) dX12_goings_107 rfl (fun c20 => ?_) (fun c20 => ?_)
      · have E := (if_neg c20).symm.trans E
        obtain ⟨w19, Ew19, E⟩ := bd_some E
        have hsw19 : ShM w19.2 := ShM_core ((kpX12_going _ _ _) _ Ew19) hsw18
        refine ea_aload_n (pc := 114) dX12_goings_114 rfl 0 rfl ?_
        refine ea_iload (pc := 115) dX12_goings_115 8 rfl ?_
        refine ea_iload (pc := 117) dX12_goings_117 7 rfl ?_
        refine ea_callV (pc := 119) (d' := d - 1) (As := [vI w18.1, vI w17.1]) (st := []) dX12_goings_119 kX12_going (sX12_going (d := d - 1) (by omega) hsw18 Ew19) (by omega) rfl (Nat.le_of_ble_eq_true rfl) ew_1859 ew_1861 ew_68 (ci := 12) rfl (by decide) (cShM_326 hsw18).1 (cShM_326 hsw18).2.1 ?_
        exact (kJ122 (x1 : Int32) (x2 : Int32) (x3 : Int32) (x4 : Int32) (x5 : Int32) (x6 : Int32) (w17.1 : Int32) (w18.1 : Int32) (w19.1 : Int32) w19.2 _ _ E hsw19)
      · have E := (if_pos c20).symm.trans E
        refine ea_iconst (pc := 110) dX12_goings_110 (v := (-1)) rfl ?_
        refine ea_goto (pc := 111) (tgt := 122) dX12_goings_111 rfl ?_
        exact (kJ122 (x1 : Int32) (x2 : Int32) (x3 : Int32) (x4 : Int32) (x5 : Int32) (x6 : Int32) (w17.1 : Int32) (w18.1 : Int32) ((-1) : Int32) w18.2 _ _ E hsw18)
    · have E := (if_neg c21).symm.trans E
      refine ea_goto (pc := 91) (tgt := 292) dX12_goings_91 rfl ?_
      refine ea_iinc (pc := 292) (v := 1) (lv' := [(0, vR (some 326)), (1, vI x1), (2, vI x2), (3, vI x3), (4, vI (x4 + (1 : Int32)))]) dX12_goings_292 4 rfl rfl (Nat.le_of_ble_eq_true rfl) [1, 2, 3, 4, 0] rfl ?_
      refine ea_goto (pc := 295) (tgt := 22) dX12_goings_295 rfl ?_
      exact (kJ22 (x1 : Int32) (x2 : Int32) (x3 : Int32) ((x4 + (1 : Int32)) : Int32) w17.2 _ _ E hsw17)
set_option maxRecDepth 100000 in
set_option maxHeartbeats 0 in
theorem kBX12_goings_60 {J22 : Int32 → Int32 → Int32 → Int32 → ea_H → Option (Unit × ea_H)} {J122 : Int32 → Int32 → Int32 → Int32 → Int32 → Int32 → Int32 → Int32 → Int32 → ea_H → Option (Unit × ea_H)}  (cJ22 : ∀ (x1 : Int32) (x2 : Int32) (x3 : Int32) (x4 : Int32) (h : ea_H), kp (ea_core h) (J22 x1 x2 x3 x4 h)) (cJ122 : ∀ (x1 : Int32) (x2 : Int32) (x3 : Int32) (x4 : Int32) (x5 : Int32) (x6 : Int32) (x7 : Int32) (x8 : Int32) (sx0 : Int32) (h : ea_H), kp (ea_core h) (J122 x1 x2 x3 x4 x5 x6 x7 x8 sx0 h)) {x1 : Int32} {x2 : Int32} {x3 : Int32} {x4 : Int32} {x5 : Int32} {x6 : Int32} {h : ea_H} : kp (ea_core h) (BX12_goings_60 J22 J122 x1 x2 x3 x4 x5 x6 h) :=
  (kp_gd (kp_ite (kp_tw (cJ22 _ _ _ _ _) rfl) (kp_bind (kp_tw (kpX12_comesAt _ _ _) rfl) fun w17 hcw17 => (kp_ite (kp_bind (kp_tw (kpX12_townOf _ _ _) hcw17) fun w18 hcw18 => (kp_ite (kp_tw (cJ122 _ _ _ _ _ _ _ _ _ _) hcw18) (kp_bind (kp_tw (kpX12_going _ _ _) hcw18) fun w19 hcw19 => (kp_tw (cJ122 _ _ _ _ _ _ _ _ _ _) hcw19)))) (kp_tw (cJ22 _ _ _ _ _) hcw17)))))
set_option maxRecDepth 100000 in
set_option maxHeartbeats 0 in
theorem lBX12_goings_60 {J22 : Int32 → Int32 → Int32 → Int32 → ea_H → Option (Unit × ea_H)} {J122 : Int32 → Int32 → Int32 → Int32 → Int32 → Int32 → Int32 → Int32 → Int32 → ea_H → Option (Unit × ea_H)} {J22_ : Int32 → Int32 → Int32 → Int32 → ea_H → Option (Unit × ea_H)} {J122_ : Int32 → Int32 → Int32 → Int32 → Int32 → Int32 → Int32 → Int32 → Int32 → ea_H → Option (Unit × ea_H)}  (mJ22 : ∀ (x1 : Int32) (x2 : Int32) (x3 : Int32) (x4 : Int32) (h : ea_H), fle (J22 x1 x2 x3 x4 h) (J22_ x1 x2 x3 x4 h)) (mJ122 : ∀ (x1 : Int32) (x2 : Int32) (x3 : Int32) (x4 : Int32) (x5 : Int32) (x6 : Int32) (x7 : Int32) (x8 : Int32) (sx0 : Int32) (h : ea_H), fle (J122 x1 x2 x3 x4 x5 x6 x7 x8 sx0 h) (J122_ x1 x2 x3 x4 x5 x6 x7 x8 sx0 h)) {x1 : Int32} {x2 : Int32} {x3 : Int32} {x4 : Int32} {x5 : Int32} {x6 : Int32} {h : ea_H} : fle (BX12_goings_60 J22 J122 x1 x2 x3 x4 x5 x6 h) (BX12_goings_60 J22_ J122_ x1 x2 x3 x4 x5 x6 h) :=
  (fle_gd (fle_ite (mJ22 _ _ _ _ _) (fle_bind (fle_rfl _) fun _ => (fle_ite (fle_bind (fle_rfl _) fun _ => (fle_ite (mJ122 _ _ _ _ _ _ _ _ _ _) (fle_bind (fle_rfl _) fun _ => (mJ122 _ _ _ _ _ _ _ _ _ _)))) (mJ22 _ _ _ _ _)))))
set_option maxRecDepth 100000 in
set_option maxHeartbeats 0 in
theorem nBX12_goings_60 {J22 : Int32 → Int32 → Int32 → Int32 → ea_H → Option (Unit × ea_H)} {J122 : Int32 → Int32 → Int32 → Int32 → Int32 → Int32 → Int32 → Int32 → Int32 → ea_H → Option (Unit × ea_H)} {J22_ : Nat → (Int32 → Int32 → Int32 → Int32 → ea_H → Option (Unit × ea_H))} {J122_ : Nat → (Int32 → Int32 → Int32 → Int32 → Int32 → Int32 → Int32 → Int32 → Int32 → ea_H → Option (Unit × ea_H))}  (mJ22 : ∀ (x1 : Int32) (x2 : Int32) (x3 : Int32) (x4 : Int32) (h : ea_H), fct (J22 x1 x2 x3 x4 h) (fun f => J22_ f x1 x2 x3 x4 h)) (mJ122 : ∀ (x1 : Int32) (x2 : Int32) (x3 : Int32) (x4 : Int32) (x5 : Int32) (x6 : Int32) (x7 : Int32) (x8 : Int32) (sx0 : Int32) (h : ea_H), fct (J122 x1 x2 x3 x4 x5 x6 x7 x8 sx0 h) (fun f => J122_ f x1 x2 x3 x4 x5 x6 x7 x8 sx0 h)) {x1 : Int32} {x2 : Int32} {x3 : Int32} {x4 : Int32} {x5 : Int32} {x6 : Int32} {h : ea_H} : fct (BX12_goings_60 J22 J122 x1 x2 x3 x4 x5 x6 h) (fun f => BX12_goings_60 (J22_ f) (J122_ f) x1 x2 x3 x4 x5 x6 h) :=
  (fct_gd (fct_ite (mJ22 _ _ _ _ _) (fct_bind (fct_rfl _) fun _ => (fct_ite (fct_bind (fct_rfl _) fun _ => (fct_ite (mJ122 _ _ _ _ _ _ _ _ _ _) (fct_bind (fct_rfl _) fun _ => (mJ122 _ _ _ _ _ _ _ _ _ _)))) (mJ22 _ _ _ _ _)))))
noncomputable def BX12_goings_122 (J147 : Int32 → Int32 → Int32 → Int32 → Int32 → Int32 → Int32 → Int32 → Int32 → ea_H → Option (Unit × ea_H)) (x1 : Int32) (x2 : Int32) (x3 : Int32) (x4 : Int32) (x5 : Int32) (x6 : Int32) (x7 : Int32) (x8 : Int32) (sx0 : Int32) (h : ea_H) : Option (Unit × ea_H) :=
  (if sx0 = ((-1) : Int32) then (J147 (x1 : Int32) (x2 : Int32) (x3 : Int32) (x4 : Int32) (x5 : Int32) (x6 : Int32) (x7 : Int32) (x8 : Int32) ((-1) : Int32) h) else (gd (vp_in (((12 : Int32) * sx0) + x4) 12000) (J147 (x1 : Int32) (x2 : Int32) (x3 : Int32) (x4 : Int32) (x5 : Int32) (x6 : Int32) (x7 : Int32) (x8 : Int32) ((ea_i h 344 (Int32.toNatClampNeg (((12 : Int32) * sx0) + x4))) : Int32) h)))
set_option maxRecDepth 100000 in
set_option maxHeartbeats 0 in
theorem tBX12_goings_122 {d : Nat} {h0 : ea_H} (hd : 2 ≤ d) {J147 : Int32 → Int32 → Int32 → Int32 → Int32 → Int32 → Int32 → Int32 → Int32 → ea_H → Option (Unit × ea_H)}  (kJ147 : ∀ (x1 : Int32) (x2 : Int32) (x3 : Int32) (x4 : Int32) (x5 : Int32) (x6 : Int32) (x7 : Int32) (x8 : Int32) (sx0 : Int32) (h : ea_H) (r : Unit) (h' : ea_H), J147 x1 x2 x3 x4 x5 x6 x7 x8 sx0 h = some (r, h') → ShM h → ea_W mX12_goings d h0 none h' 147 [(0, vR (some 326)), (1, vI x1), (2, vI x2), (3, vI x3), (4, vI x4), (5, vI x5), (6, vI x6), (7, vI x7), (8, vI x8)] [vI sx0] h) {x1 : Int32} {x2 : Int32} {x3 : Int32} {x4 : Int32} {x5 : Int32} {x6 : Int32} {x7 : Int32} {x8 : Int32} {sx0 : Int32} {h : ea_H} {r : Unit} {h' : ea_H} (E : BX12_goings_122 J147 x1 x2 x3 x4 x5 x6 x7 x8 sx0 h = some (r, h')) (hs : ShM h) : ea_W mX12_goings d h0 none h' 122 [(0, vR (some 326)), (1, vI x1), (2, vI x2), (3, vI x3), (4, vI x4), (5, vI x5), (6, vI x6), (7, vI x7), (8, vI x8)] [vI sx0] h := by
  unfold BX12_goings_122 at E
  refine ea_istore (pc := 122) (lv' := [(0, vR (some 326)), (1, vI x1), (2, vI x2), (3, vI x3), (4, vI x4), (5, vI x5), (6, vI x6), (7, vI x7), (8, vI x8), (9, vI sx0)]) dX12_goings_122 (Nat.le_of_ble_eq_true rfl) [1, 2, 3, 4, 5, 6, 7, 8, 9, 0] rfl ?_
  refine ea_iload (pc := 124) dX12_goings_124 9 rfl ?_
  refine ea_iconst (pc := 126) dX12_goings_126 (v := (-1)) rfl ?_
  refine ea_icmp_ne (pc := 127) (tgt := 134) dX12_goings_127 rfl (fun c24 => ?_) (fun c24 => ?_)
  · have E := (if_neg c24).symm.trans E
    obtain ⟨z23, E⟩ := gd_some E
    refine ea_aload_n (pc := 134) dX12_goings_134 rfl 0 rfl ?_
    refine ea_getR (pc := 135) dX12_goings_135 ec_12 (k := 22) (Nat.le_of_ble_eq_true rfl) rfl (Or.inl ew_1424) (cShM_326 hs).1 (cShM_326 hs).2.1 (rShM_326_22 hs) ?_
    refine ea_bipush (pc := 138) dX12_goings_138 (v := 12) rfl ?_
    refine ea_iload (pc := 140) dX12_goings_140 9 rfl ?_
    refine ea_imul (pc := 142) dX12_goings_142 ?_
    refine ea_iload (pc := 143) dX12_goings_143 4 rfl ?_
    refine ea_iadd (pc := 145) dX12_goings_145 ?_
    refine ea_iald (pc := 146) dX12_goings_146 (cShM_344 hs).1 (cShM_344 hs).2.1 (ea_vpl (cShM_344 hs).2.2 z23) ?_
    exact ea_fewer [0, 1, 2, 3, 4, 5, 6, 7, 8] rfl (kJ147 (x1 : Int32) (x2 : Int32) (x3 : Int32) (x4 : Int32) (x5 : Int32) (x6 : Int32) (x7 : Int32) (x8 : Int32) ((ea_i h 344 (Int32.toNatClampNeg (((12 : Int32) * sx0) + x4))) : Int32) h _ _ E hs)
  · have E := (if_pos c24).symm.trans E
    refine ea_iconst (pc := 130) dX12_goings_130 (v := (-1)) rfl ?_
    refine ea_goto (pc := 131) (tgt := 147) dX12_goings_131 rfl ?_
    exact ea_fewer [0, 1, 2, 3, 4, 5, 6, 7, 8] rfl (kJ147 (x1 : Int32) (x2 : Int32) (x3 : Int32) (x4 : Int32) (x5 : Int32) (x6 : Int32) (x7 : Int32) (x8 : Int32) ((-1) : Int32) h _ _ E hs)
set_option maxRecDepth 100000 in
set_option maxHeartbeats 0 in
theorem kBX12_goings_122 {J147 : Int32 → Int32 → Int32 → Int32 → Int32 → Int32 → Int32 → Int32 → Int32 → ea_H → Option (Unit × ea_H)}  (cJ147 : ∀ (x1 : Int32) (x2 : Int32) (x3 : Int32) (x4 : Int32) (x5 : Int32) (x6 : Int32) (x7 : Int32) (x8 : Int32) (sx0 : Int32) (h : ea_H), kp (ea_core h) (J147 x1 x2 x3 x4 x5 x6 x7 x8 sx0 h)) {x1 : Int32} {x2 : Int32} {x3 : Int32} {x4 : Int32} {x5 : Int32} {x6 : Int32} {x7 : Int32} {x8 : Int32} {sx0 : Int32} {h : ea_H} : kp (ea_core h) (BX12_goings_122 J147 x1 x2 x3 x4 x5 x6 x7 x8 sx0 h) :=
  (kp_ite (kp_tw (cJ147 _ _ _ _ _ _ _ _ _ _) rfl) (kp_gd (kp_tw (cJ147 _ _ _ _ _ _ _ _ _ _) rfl)))
set_option maxRecDepth 100000 in
set_option maxHeartbeats 0 in
theorem lBX12_goings_122 {J147 : Int32 → Int32 → Int32 → Int32 → Int32 → Int32 → Int32 → Int32 → Int32 → ea_H → Option (Unit × ea_H)} {J147_ : Int32 → Int32 → Int32 → Int32 → Int32 → Int32 → Int32 → Int32 → Int32 → ea_H → Option (Unit × ea_H)}  (mJ147 : ∀ (x1 : Int32) (x2 : Int32) (x3 : Int32) (x4 : Int32) (x5 : Int32) (x6 : Int32) (x7 : Int32) (x8 : Int32) (sx0 : Int32) (h : ea_H), fle (J147 x1 x2 x3 x4 x5 x6 x7 x8 sx0 h) (J147_ x1 x2 x3 x4 x5 x6 x7 x8 sx0 h)) {x1 : Int32} {x2 : Int32} {x3 : Int32} {x4 : Int32} {x5 : Int32} {x6 : Int32} {x7 : Int32} {x8 : Int32} {sx0 : Int32} {h : ea_H} : fle (BX12_goings_122 J147 x1 x2 x3 x4 x5 x6 x7 x8 sx0 h) (BX12_goings_122 J147_ x1 x2 x3 x4 x5 x6 x7 x8 sx0 h) :=
  (fle_ite (mJ147 _ _ _ _ _ _ _ _ _ _) (fle_gd (mJ147 _ _ _ _ _ _ _ _ _ _)))
set_option maxRecDepth 100000 in
set_option maxHeartbeats 0 in
theorem nBX12_goings_122 {J147 : Int32 → Int32 → Int32 → Int32 → Int32 → Int32 → Int32 → Int32 → Int32 → ea_H → Option (Unit × ea_H)} {J147_ : Nat → (Int32 → Int32 → Int32 → Int32 → Int32 → Int32 → Int32 → Int32 → Int32 → ea_H → Option (Unit × ea_H))}  (mJ147 : ∀ (x1 : Int32) (x2 : Int32) (x3 : Int32) (x4 : Int32) (x5 : Int32) (x6 : Int32) (x7 : Int32) (x8 : Int32) (sx0 : Int32) (h : ea_H), fct (J147 x1 x2 x3 x4 x5 x6 x7 x8 sx0 h) (fun f => J147_ f x1 x2 x3 x4 x5 x6 x7 x8 sx0 h)) {x1 : Int32} {x2 : Int32} {x3 : Int32} {x4 : Int32} {x5 : Int32} {x6 : Int32} {x7 : Int32} {x8 : Int32} {sx0 : Int32} {h : ea_H} : fct (BX12_goings_122 J147 x1 x2 x3 x4 x5 x6 x7 x8 sx0 h) (fun f => BX12_goings_122 (J147_ f) x1 x2 x3 x4 x5 x6 x7 x8 sx0 h) :=
  (fct_ite (mJ147 _ _ _ _ _ _ _ _ _ _) (fct_gd (mJ147 _ _ _ _ _ _ _ _ _ _)))
noncomputable def BX12_goings_147 (J60 : Int32 → Int32 → Int32 → Int32 → Int32 → Int32 → ea_H → Option (Unit × ea_H)) (J165 : Int32 → Int32 → Int32 → Int32 → Int32 → Int32 → Int32 → Int32 → Int32 → ea_H → Option (Unit × ea_H)) (x1 : Int32) (x2 : Int32) (x3 : Int32) (x4 : Int32) (x5 : Int32) (x6 : Int32) (x7 : Int32) (x8 : Int32) (sx0 : Int32) (h : ea_H) : Option (Unit × ea_H) :=
  (if x8 = x4 then (J165 (x1 : Int32) (x2 : Int32) (x3 : Int32) (x4 : Int32) (x5 : Int32) (x6 : Int32) (x7 : Int32) (x8 : Int32) (sx0 : Int32) h) else (if sx0 = ((-1) : Int32) then (J60 (x1 : Int32) (x2 : Int32) (x3 : Int32) (x4 : Int32) (x5 : Int32) ((x6 + (1 : Int32)) : Int32) h) else (J165 (x1 : Int32) (x2 : Int32) (x3 : Int32) (x4 : Int32) (x5 : Int32) (x6 : Int32) (x7 : Int32) (x8 : Int32) (sx0 : Int32) h)))
set_option maxRecDepth 100000 in
set_option maxHeartbeats 0 in
theorem tBX12_goings_147 {d : Nat} {h0 : ea_H} (hd : 2 ≤ d) {J60 : Int32 → Int32 → Int32 → Int32 → Int32 → Int32 → ea_H → Option (Unit × ea_H)} {J165 : Int32 → Int32 → Int32 → Int32 → Int32 → Int32 → Int32 → Int32 → Int32 → ea_H → Option (Unit × ea_H)}  (kJ60 : ∀ (x1 : Int32) (x2 : Int32) (x3 : Int32) (x4 : Int32) (x5 : Int32) (x6 : Int32) (h : ea_H) (r : Unit) (h' : ea_H), J60 x1 x2 x3 x4 x5 x6 h = some (r, h') → ShM h → ea_W mX12_goings d h0 none h' 60 [(0, vR (some 326)), (1, vI x1), (2, vI x2), (3, vI x3), (4, vI x4), (5, vI x5), (6, vI x6)] [] h) (kJ165 : ∀ (x1 : Int32) (x2 : Int32) (x3 : Int32) (x4 : Int32) (x5 : Int32) (x6 : Int32) (x7 : Int32) (x8 : Int32) (x10 : Int32) (h : ea_H) (r : Unit) (h' : ea_H), J165 x1 x2 x3 x4 x5 x6 x7 x8 x10 h = some (r, h') → ShM h → ea_W mX12_goings d h0 none h' 165 [(0, vR (some 326)), (1, vI x1), (2, vI x2), (3, vI x3), (4, vI x4), (5, vI x5), (6, vI x6), (7, vI x7), (8, vI x8), (10, vI x10)] [] h) {x1 : Int32} {x2 : Int32} {x3 : Int32} {x4 : Int32} {x5 : Int32} {x6 : Int32} {x7 : Int32} {x8 : Int32} {sx0 : Int32} {h : ea_H} {r : Unit} {h' : ea_H} (E : BX12_goings_147 J60 J165 x1 x2 x3 x4 x5 x6 x7 x8 sx0 h = some (r, h')) (hs : ShM h) : ea_W mX12_goings d h0 none h' 147 [(0, vR (some 326)), (1, vI x1), (2, vI x2), (3, vI x3), (4, vI x4), (5, vI x5), (6, vI x6), (7, vI x7), (8, vI x8)] [vI sx0] h := by
  unfold BX12_goings_147 at E
  refine ea_istore (pc := 147) (lv' := [(0, vR (some 326)), (1, vI x1), (2, vI x2), (3, vI x3), (4, vI x4), (5, vI x5), (6, vI x6), (7, vI x7), (8, vI x8), (10, vI sx0)]) dX12_goings_147 (Nat.le_of_ble_eq_true rfl) [1, 2, 3, 4, 5, 6, 7, 8, 9, 0] rfl ?_
  refine ea_iload (pc := 149) dX12_goings_149 8 rfl ?_
  refine ea_iload (pc := 151) dX12_goings_151 4 rfl ?_
  refine ea_icmp_eq (pc := 153) (tgt := 165) dX12_goings_153 rfl (fun c26 => ?_) (fun c26 => ?_)
  · have E := (if_pos c26).symm.trans E
    exact (kJ165 (x1 : Int32) (x2 : Int32) (x3 : Int32) (x4 : Int32) (x5 : Int32) (x6 : Int32) (x7 : Int32) (x8 : Int32) (sx0 : Int32) h _ _ E hs)
  · have E := (if_neg c26).symm.trans E
    refine ea_iload (pc := 156) dX12_goings_156 9 rfl ?_
    refine ea_iconst (pc := 158) dX12_goings_158 (v := (-1)) rfl ?_
    refine ea_icmp_ne (pc := 159) (tgt := 165) dX12_goings_159 rfl (fun c25 => ?_) (fun c25 => ?_)
    · have E := (if_neg c25).symm.trans E
      exact (kJ165 (x1 : Int32) (x2 : Int32) (x3 : Int32) (x4 : Int32) (x5 : Int32) (x6 : Int32) (x7 : Int32) (x8 : Int32) (sx0 : Int32) h _ _ E hs)
    · have E := (if_pos c25).symm.trans E
      refine ea_goto (pc := 162) (tgt := 286) dX12_goings_162 rfl ?_
      refine ea_iinc (pc := 286) (v := 1) (lv' := [(0, vR (some 326)), (1, vI x1), (2, vI x2), (3, vI x3), (4, vI x4), (5, vI x5), (6, vI (x6 + (1 : Int32)))]) dX12_goings_286 6 rfl rfl (Nat.le_of_ble_eq_true rfl) [1, 2, 3, 4, 5, 6, 0] rfl ?_
      refine ea_goto (pc := 289) (tgt := 60) dX12_goings_289 rfl ?_
      exact (kJ60 (x1 : Int32) (x2 : Int32) (x3 : Int32) (x4 : Int32) (x5 : Int32) ((x6 + (1 : Int32)) : Int32) h _ _ E hs)
set_option maxRecDepth 100000 in
set_option maxHeartbeats 0 in
theorem kBX12_goings_147 {J60 : Int32 → Int32 → Int32 → Int32 → Int32 → Int32 → ea_H → Option (Unit × ea_H)} {J165 : Int32 → Int32 → Int32 → Int32 → Int32 → Int32 → Int32 → Int32 → Int32 → ea_H → Option (Unit × ea_H)}  (cJ60 : ∀ (x1 : Int32) (x2 : Int32) (x3 : Int32) (x4 : Int32) (x5 : Int32) (x6 : Int32) (h : ea_H), kp (ea_core h) (J60 x1 x2 x3 x4 x5 x6 h)) (cJ165 : ∀ (x1 : Int32) (x2 : Int32) (x3 : Int32) (x4 : Int32) (x5 : Int32) (x6 : Int32) (x7 : Int32) (x8 : Int32) (x10 : Int32) (h : ea_H), kp (ea_core h) (J165 x1 x2 x3 x4 x5 x6 x7 x8 x10 h)) {x1 : Int32} {x2 : Int32} {x3 : Int32} {x4 : Int32} {x5 : Int32} {x6 : Int32} {x7 : Int32} {x8 : Int32} {sx0 : Int32} {h : ea_H} : kp (ea_core h) (BX12_goings_147 J60 J165 x1 x2 x3 x4 x5 x6 x7 x8 sx0 h) :=
  (kp_ite (kp_tw (cJ165 _ _ _ _ _ _ _ _ _ _) rfl) (kp_ite (kp_tw (cJ60 _ _ _ _ _ _ _) rfl) (kp_tw (cJ165 _ _ _ _ _ _ _ _ _ _) rfl)))
set_option maxRecDepth 100000 in
set_option maxHeartbeats 0 in
theorem lBX12_goings_147 {J60 : Int32 → Int32 → Int32 → Int32 → Int32 → Int32 → ea_H → Option (Unit × ea_H)} {J165 : Int32 → Int32 → Int32 → Int32 → Int32 → Int32 → Int32 → Int32 → Int32 → ea_H → Option (Unit × ea_H)} {J60_ : Int32 → Int32 → Int32 → Int32 → Int32 → Int32 → ea_H → Option (Unit × ea_H)} {J165_ : Int32 → Int32 → Int32 → Int32 → Int32 → Int32 → Int32 → Int32 → Int32 → ea_H → Option (Unit × ea_H)}  (mJ60 : ∀ (x1 : Int32) (x2 : Int32) (x3 : Int32) (x4 : Int32) (x5 : Int32) (x6 : Int32) (h : ea_H), fle (J60 x1 x2 x3 x4 x5 x6 h) (J60_ x1 x2 x3 x4 x5 x6 h)) (mJ165 : ∀ (x1 : Int32) (x2 : Int32) (x3 : Int32) (x4 : Int32) (x5 : Int32) (x6 : Int32) (x7 : Int32) (x8 : Int32) (x10 : Int32) (h : ea_H), fle (J165 x1 x2 x3 x4 x5 x6 x7 x8 x10 h) (J165_ x1 x2 x3 x4 x5 x6 x7 x8 x10 h)) {x1 : Int32} {x2 : Int32} {x3 : Int32} {x4 : Int32} {x5 : Int32} {x6 : Int32} {x7 : Int32} {x8 : Int32} {sx0 : Int32} {h : ea_H} : fle (BX12_goings_147 J60 J165 x1 x2 x3 x4 x5 x6 x7 x8 sx0 h) (BX12_goings_147 J60_ J165_ x1 x2 x3 x4 x5 x6 x7 x8 sx0 h) :=
  (fle_ite (mJ165 _ _ _ _ _ _ _ _ _ _) (fle_ite (mJ60 _ _ _ _ _ _ _) (mJ165 _ _ _ _ _ _ _ _ _ _)))
set_option maxRecDepth 100000 in
set_option maxHeartbeats 0 in
theorem nBX12_goings_147 {J60 : Int32 → Int32 → Int32 → Int32 → Int32 → Int32 → ea_H → Option (Unit × ea_H)} {J165 : Int32 → Int32 → Int32 → Int32 → Int32 → Int32 → Int32 → Int32 → Int32 → ea_H → Option (Unit × ea_H)} {J60_ : Nat → (Int32 → Int32 → Int32 → Int32 → Int32 → Int32 → ea_H → Option (Unit × ea_H))} {J165_ : Nat → (Int32 → Int32 → Int32 → Int32 → Int32 → Int32 → Int32 → Int32 → Int32 → ea_H → Option (Unit × ea_H))}  (mJ60 : ∀ (x1 : Int32) (x2 : Int32) (x3 : Int32) (x4 : Int32) (x5 : Int32) (x6 : Int32) (h : ea_H), fct (J60 x1 x2 x3 x4 x5 x6 h) (fun f => J60_ f x1 x2 x3 x4 x5 x6 h)) (mJ165 : ∀ (x1 : Int32) (x2 : Int32) (x3 : Int32) (x4 : Int32) (x5 : Int32) (x6 : Int32) (x7 : Int32) (x8 : Int32) (x10 : Int32) (h : ea_H), fct (J165 x1 x2 x3 x4 x5 x6 x7 x8 x10 h) (fun f => J165_ f x1 x2 x3 x4 x5 x6 x7 x8 x10 h)) {x1 : Int32} {x2 : Int32} {x3 : Int32} {x4 : Int32} {x5 : Int32} {x6 : Int32} {x7 : Int32} {x8 : Int32} {sx0 : Int32} {h : ea_H} : fct (BX12_goings_147 J60 J165 x1 x2 x3 x4 x5 x6 x7 x8 sx0 h) (fun f => BX12_goings_147 (J60_ f) (J165_ f) x1 x2 x3 x4 x5 x6 x7 x8 sx0 h) :=
  (fct_ite (mJ165 _ _ _ _ _ _ _ _ _ _) (fct_ite (mJ60 _ _ _ _ _ _ _) (mJ165 _ _ _ _ _ _ _ _ _ _)))
noncomputable def BX12_goings_165 (J190 : Int32 → Int32 → Int32 → Int32 → Int32 → Int32 → Int32 → Int32 → Int32 → ea_H → Option (Unit × ea_H)) (x1 : Int32) (x2 : Int32) (x3 : Int32) (x4 : Int32) (x5 : Int32) (x6 : Int32) (x7 : Int32) (x8 : Int32) (x10 : Int32) (h : ea_H) : Option (Unit × ea_H) :=
  (if x8 = x4 then (J190 (x1 : Int32) (x2 : Int32) (x3 : Int32) (x4 : Int32) (x5 : Int32) (x6 : Int32) (x8 : Int32) (x10 : Int32) (x7 : Int32) h) else (gd (vp_in (((12 : Int32) * x10) + x4) 12000) (J190 (x1 : Int32) (x2 : Int32) (x3 : Int32) (x4 : Int32) (x5 : Int32) (x6 : Int32) (x8 : Int32) (x10 : Int32) ((ea_i h 341 (Int32.toNatClampNeg (((12 : Int32) * x10) + x4))) : Int32) h)))
set_option maxRecDepth 100000 in
set_option maxHeartbeats 0 in
theorem tBX12_goings_165 {d : Nat} {h0 : ea_H} (hd : 2 ≤ d) {J190 : Int32 → Int32 → Int32 → Int32 → Int32 → Int32 → Int32 → Int32 → Int32 → ea_H → Option (Unit × ea_H)}  (kJ190 : ∀ (x1 : Int32) (x2 : Int32) (x3 : Int32) (x4 : Int32) (x5 : Int32) (x6 : Int32) (x8 : Int32) (x10 : Int32) (sx0 : Int32) (h : ea_H) (r : Unit) (h' : ea_H), J190 x1 x2 x3 x4 x5 x6 x8 x10 sx0 h = some (r, h') → ShM h → ea_W mX12_goings d h0 none h' 190 [(0, vR (some 326)), (1, vI x1), (2, vI x2), (3, vI x3), (4, vI x4), (5, vI x5), (6, vI x6), (8, vI x8), (10, vI x10)] [vI sx0] h) {x1 : Int32} {x2 : Int32} {x3 : Int32} {x4 : Int32} {x5 : Int32} {x6 : Int32} {x7 : Int32} {x8 : Int32} {x10 : Int32} {h : ea_H} {r : Unit} {h' : ea_H} (E : BX12_goings_165 J190 x1 x2 x3 x4 x5 x6 x7 x8 x10 h = some (r, h')) (hs : ShM h) : ea_W mX12_goings d h0 none h' 165 [(0, vR (some 326)), (1, vI x1), (2, vI x2), (3, vI x3), (4, vI x4), (5, vI x5), (6, vI x6), (7, vI x7), (8, vI x8), (10, vI x10)] [] h := by
  unfold BX12_goings_165 at E
  refine ea_iload (pc := 165) dX12_goings_165 8 rfl ?_
  refine ea_iload (pc := 167) dX12_goings_167 4 rfl ?_
  refine ea_icmp_ne (pc := 169) (tgt := 177) dX12_goings_169 rfl (fun c28 => ?_) (fun c28 => ?_)
  · have E := (if_neg c28).symm.trans E
    obtain ⟨z27, E⟩ := gd_some E
    refine ea_aload_n (pc := 177) dX12_goings_177 rfl 0 rfl ?_
    refine ea_getR (pc := 178) dX12_goings_178 ec_12 (k := 19) (Nat.le_of_ble_eq_true rfl) rfl (Or.inl ew_1421) (cShM_326 hs).1 (cShM_326 hs).2.1 (rShM_326_19 hs) ?_
    refine ea_bipush (pc := 181) dX12_goings_181 (v := 12) rfl ?_
    refine ea_iload (pc := 183) dX12_goings_183 9 rfl ?_
    refine ea_imul (pc := 185) dX12_goings_185 ?_
    refine ea_iload (pc := 186) dX12_goings_186 4 rfl ?_
    refine ea_iadd (pc := 188) dX12_goings_188 ?_
    refine ea_iald (pc := 189) dX12_goings_189 (cShM_341 hs).1 (cShM_341 hs).2.1 (ea_vpl (cShM_341 hs).2.2 z27) ?_
    exact ea_fewer [0, 1, 2, 3, 4, 5, 6, 8, 9] rfl (kJ190 (x1 : Int32) (x2 : Int32) (x3 : Int32) (x4 : Int32) (x5 : Int32) (x6 : Int32) (x8 : Int32) (x10 : Int32) ((ea_i h 341 (Int32.toNatClampNeg (((12 : Int32) * x10) + x4))) : Int32) h _ _ E hs)
  · have E := (if_pos c28).symm.trans E
    refine ea_iload (pc := 172) dX12_goings_172 7 rfl ?_
    refine ea_goto (pc := 174) (tgt := 190) dX12_goings_174 rfl ?_
    exact ea_fewer [0, 1, 2, 3, 4, 5, 6, 8, 9] rfl (kJ190 (x1 : Int32) (x2 : Int32) (x3 : Int32) (x4 : Int32) (x5 : Int32) (x6 : Int32) (x8 : Int32) (x10 : Int32) (x7 : Int32) h _ _ E hs)
set_option maxRecDepth 100000 in
set_option maxHeartbeats 0 in
theorem kBX12_goings_165 {J190 : Int32 → Int32 → Int32 → Int32 → Int32 → Int32 → Int32 → Int32 → Int32 → ea_H → Option (Unit × ea_H)}  (cJ190 : ∀ (x1 : Int32) (x2 : Int32) (x3 : Int32) (x4 : Int32) (x5 : Int32) (x6 : Int32) (x8 : Int32) (x10 : Int32) (sx0 : Int32) (h : ea_H), kp (ea_core h) (J190 x1 x2 x3 x4 x5 x6 x8 x10 sx0 h)) {x1 : Int32} {x2 : Int32} {x3 : Int32} {x4 : Int32} {x5 : Int32} {x6 : Int32} {x7 : Int32} {x8 : Int32} {x10 : Int32} {h : ea_H} : kp (ea_core h) (BX12_goings_165 J190 x1 x2 x3 x4 x5 x6 x7 x8 x10 h) :=
  (kp_ite (kp_tw (cJ190 _ _ _ _ _ _ _ _ _ _) rfl) (kp_gd (kp_tw (cJ190 _ _ _ _ _ _ _ _ _ _) rfl)))
set_option maxRecDepth 100000 in
set_option maxHeartbeats 0 in
theorem lBX12_goings_165 {J190 : Int32 → Int32 → Int32 → Int32 → Int32 → Int32 → Int32 → Int32 → Int32 → ea_H → Option (Unit × ea_H)} {J190_ : Int32 → Int32 → Int32 → Int32 → Int32 → Int32 → Int32 → Int32 → Int32 → ea_H → Option (Unit × ea_H)}  (mJ190 : ∀ (x1 : Int32) (x2 : Int32) (x3 : Int32) (x4 : Int32) (x5 : Int32) (x6 : Int32) (x8 : Int32) (x10 : Int32) (sx0 : Int32) (h : ea_H), fle (J190 x1 x2 x3 x4 x5 x6 x8 x10 sx0 h) (J190_ x1 x2 x3 x4 x5 x6 x8 x10 sx0 h)) {x1 : Int32} {x2 : Int32} {x3 : Int32} {x4 : Int32} {x5 : Int32} {x6 : Int32} {x7 : Int32} {x8 : Int32} {x10 : Int32} {h : ea_H} : fle (BX12_goings_165 J190 x1 x2 x3 x4 x5 x6 x7 x8 x10 h) (BX12_goings_165 J190_ x1 x2 x3 x4 x5 x6 x7 x8 x10 h) :=
  (fle_ite (mJ190 _ _ _ _ _ _ _ _ _ _) (fle_gd (mJ190 _ _ _ _ _ _ _ _ _ _)))
set_option maxRecDepth 100000 in
set_option maxHeartbeats 0 in
theorem nBX12_goings_165 {J190 : Int32 → Int32 → Int32 → Int32 → Int32 → Int32 → Int32 → Int32 → Int32 → ea_H → Option (Unit × ea_H)} {J190_ : Nat → (Int32 → Int32 → Int32 → Int32 → Int32 → Int32 → Int32 → Int32 → Int32 → ea_H → Option (Unit × ea_H))}  (mJ190 : ∀ (x1 : Int32) (x2 : Int32) (x3 : Int32) (x4 : Int32) (x5 : Int32) (x6 : Int32) (x8 : Int32) (x10 : Int32) (sx0 : Int32) (h : ea_H), fct (J190 x1 x2 x3 x4 x5 x6 x8 x10 sx0 h) (fun f => J190_ f x1 x2 x3 x4 x5 x6 x8 x10 sx0 h)) {x1 : Int32} {x2 : Int32} {x3 : Int32} {x4 : Int32} {x5 : Int32} {x6 : Int32} {x7 : Int32} {x8 : Int32} {x10 : Int32} {h : ea_H} : fct (BX12_goings_165 J190 x1 x2 x3 x4 x5 x6 x7 x8 x10 h) (fun f => BX12_goings_165 (J190_ f) x1 x2 x3 x4 x5 x6 x7 x8 x10 h) :=
  (fct_ite (mJ190 _ _ _ _ _ _ _ _ _ _) (fct_gd (mJ190 _ _ _ _ _ _ _ _ _ _)))
noncomputable def BX12_goings_190 (J218 : Int32 → Int32 → Int32 → Int32 → Int32 → Int32 → Int32 → Int32 → ea_H → Option (Unit × ea_H)) (x1 : Int32) (x2 : Int32) (x3 : Int32) (x4 : Int32) (x5 : Int32) (x6 : Int32) (x8 : Int32) (x10 : Int32) (sx0 : Int32) (h : ea_H) : Option (Unit × ea_H) :=
  (if x8 = x4 then (J218 (x1 : Int32) (x2 : Int32) (x3 : Int32) (x4 : Int32) (x5 : Int32) (x6 : Int32) (sx0 : Int32) (1 : Int32) h) else (gd (vp_in (((12 : Int32) * x10) + x4) 12000) (J218 (x1 : Int32) (x2 : Int32) (x3 : Int32) (x4 : Int32) (x5 : Int32) (x6 : Int32) (sx0 : Int32) (((ea_i h 342 (Int32.toNatClampNeg (((12 : Int32) * x10) + x4))) + (1 : Int32)) : Int32) h)))
set_option maxRecDepth 100000 in
set_option maxHeartbeats 0 in
theorem tBX12_goings_190 {d : Nat} {h0 : ea_H} (hd : 2 ≤ d) {J218 : Int32 → Int32 → Int32 → Int32 → Int32 → Int32 → Int32 → Int32 → ea_H → Option (Unit × ea_H)}  (kJ218 : ∀ (x1 : Int32) (x2 : Int32) (x3 : Int32) (x4 : Int32) (x5 : Int32) (x6 : Int32) (x11 : Int32) (sx0 : Int32) (h : ea_H) (r : Unit) (h' : ea_H), J218 x1 x2 x3 x4 x5 x6 x11 sx0 h = some (r, h') → ShM h → ea_W mX12_goings d h0 none h' 218 [(0, vR (some 326)), (1, vI x1), (2, vI x2), (3, vI x3), (4, vI x4), (5, vI x5), (6, vI x6), (11, vI x11)] [vI sx0] h) {x1 : Int32} {x2 : Int32} {x3 : Int32} {x4 : Int32} {x5 : Int32} {x6 : Int32} {x8 : Int32} {x10 : Int32} {sx0 : Int32} {h : ea_H} {r : Unit} {h' : ea_H} (E : BX12_goings_190 J218 x1 x2 x3 x4 x5 x6 x8 x10 sx0 h = some (r, h')) (hs : ShM h) : ea_W mX12_goings d h0 none h' 190 [(0, vR (some 326)), (1, vI x1), (2, vI x2), (3, vI x3), (4, vI x4), (5, vI x5), (6, vI x6), (8, vI x8), (10, vI x10)] [vI sx0] h := by
  unfold BX12_goings_190 at E
  refine ea_istore (pc := 190) (lv' := [(0, vR (some 326)), (1, vI x1), (2, vI x2), (3, vI x3), (4, vI x4), (5, vI x5), (6, vI x6), (8, vI x8), (10, vI x10), (11, vI sx0)]) dX12_goings_190 (Nat.le_of_ble_eq_true rfl) [1, 2, 3, 4, 5, 6, 7, 8, 9, 0] rfl ?_
  refine ea_iload (pc := 192) dX12_goings_192 7 rfl ?_
  refine ea_iload (pc := 194) dX12_goings_194 4 rfl ?_
  refine ea_icmp_ne (pc := 196) (tgt := 203) dX12_goings_196 rfl (fun c30 => ?_) (fun c30 => ?_)
  · have E := (if_neg c30).symm.trans E
    obtain ⟨z29, E⟩ := gd_some E
    refine ea_aload_n (pc := 203) dX12_goings_203 rfl 0 rfl ?_
    refine ea_getR (pc := 204) dX12_goings_204 ec_12 (k := 20) (Nat.le_of_ble_eq_true rfl) rfl (Or.inl ew_1422) (cShM_326 hs).1 (cShM_326 hs).2.1 (rShM_326_20 hs) ?_
    refine ea_bipush (pc := 207) dX12_goings_207 (v := 12) rfl ?_
    refine ea_iload (pc := 209) dX12_goings_209 8 rfl ?_
    refine ea_imul (pc := 211) dX12_goings_211 ?_
    refine ea_iload (pc := 212) dX12_goings_212 4 rfl ?_
    refine ea_iadd (pc := 214) dX12_goings_214 ?_
    refine ea_iald (pc := 215) dX12_goings_215 (cShM_342 hs).1 (cShM_342 hs).2.1 (ea_vpl (cShM_342 hs).2.2 z29) ?_
    refine ea_iconst (pc := 216) dX12_goings_216 (v := 1) rfl ?_
    refine ea_iadd (pc := 217) dX12_goings_217 ?_
    exact ea_fewer [0, 1, 2, 3, 4, 5, 6, 9] rfl (kJ218 (x1 : Int32) (x2 : Int32) (x3 : Int32) (x4 : Int32) (x5 : Int32) (x6 : Int32) (sx0 : Int32) (((ea_i h 342 (Int32.toNatClampNeg (((12 : Int32) * x10) + x4))) + (1 : Int32)) : Int32) h _ _ E hs)
  · have E := (if_pos c30).symm.trans E
    refine ea_iconst (pc := 199) dX12_goings_199 (v := 1) rfl ?_
    refine ea_goto (pc := 200) (tgt := 218) dX12_goings_200 rfl ?_
    exact ea_fewer [0, 1, 2, 3, 4, 5, 6, 9] rfl (kJ218 (x1 : Int32) (x2 : Int32) (x3 : Int32) (x4 : Int32) (x5 : Int32) (x6 : Int32) (sx0 : Int32) (1 : Int32) h _ _ E hs)
set_option maxRecDepth 100000 in
set_option maxHeartbeats 0 in
theorem kBX12_goings_190 {J218 : Int32 → Int32 → Int32 → Int32 → Int32 → Int32 → Int32 → Int32 → ea_H → Option (Unit × ea_H)}  (cJ218 : ∀ (x1 : Int32) (x2 : Int32) (x3 : Int32) (x4 : Int32) (x5 : Int32) (x6 : Int32) (x11 : Int32) (sx0 : Int32) (h : ea_H), kp (ea_core h) (J218 x1 x2 x3 x4 x5 x6 x11 sx0 h)) {x1 : Int32} {x2 : Int32} {x3 : Int32} {x4 : Int32} {x5 : Int32} {x6 : Int32} {x8 : Int32} {x10 : Int32} {sx0 : Int32} {h : ea_H} : kp (ea_core h) (BX12_goings_190 J218 x1 x2 x3 x4 x5 x6 x8 x10 sx0 h) :=
  (kp_ite (kp_tw (cJ218 _ _ _ _ _ _ _ _ _) rfl) (kp_gd (kp_tw (cJ218 _ _ _ _ _ _ _ _ _) rfl)))
set_option maxRecDepth 100000 in
set_option maxHeartbeats 0 in
theorem lBX12_goings_190 {J218 : Int32 → Int32 → Int32 → Int32 → Int32 → Int32 → Int32 → Int32 → ea_H → Option (Unit × ea_H)} {J218_ : Int32 → Int32 → Int32 → Int32 → Int32 → Int32 → Int32 → Int32 → ea_H → Option (Unit × ea_H)}  (mJ218 : ∀ (x1 : Int32) (x2 : Int32) (x3 : Int32) (x4 : Int32) (x5 : Int32) (x6 : Int32) (x11 : Int32) (sx0 : Int32) (h : ea_H), fle (J218 x1 x2 x3 x4 x5 x6 x11 sx0 h) (J218_ x1 x2 x3 x4 x5 x6 x11 sx0 h)) {x1 : Int32} {x2 : Int32} {x3 : Int32} {x4 : Int32} {x5 : Int32} {x6 : Int32} {x8 : Int32} {x10 : Int32} {sx0 : Int32} {h : ea_H} : fle (BX12_goings_190 J218 x1 x2 x3 x4 x5 x6 x8 x10 sx0 h) (BX12_goings_190 J218_ x1 x2 x3 x4 x5 x6 x8 x10 sx0 h) :=
  (fle_ite (mJ218 _ _ _ _ _ _ _ _ _) (fle_gd (mJ218 _ _ _ _ _ _ _ _ _)))
set_option maxRecDepth 100000 in
set_option maxHeartbeats 0 in
theorem nBX12_goings_190 {J218 : Int32 → Int32 → Int32 → Int32 → Int32 → Int32 → Int32 → Int32 → ea_H → Option (Unit × ea_H)} {J218_ : Nat → (Int32 → Int32 → Int32 → Int32 → Int32 → Int32 → Int32 → Int32 → ea_H → Option (Unit × ea_H))}  (mJ218 : ∀ (x1 : Int32) (x2 : Int32) (x3 : Int32) (x4 : Int32) (x5 : Int32) (x6 : Int32) (x11 : Int32) (sx0 : Int32) (h : ea_H), fct (J218 x1 x2 x3 x4 x5 x6 x11 sx0 h) (fun f => J218_ f x1 x2 x3 x4 x5 x6 x11 sx0 h)) {x1 : Int32} {x2 : Int32} {x3 : Int32} {x4 : Int32} {x5 : Int32} {x6 : Int32} {x8 : Int32} {x10 : Int32} {sx0 : Int32} {h : ea_H} : fct (BX12_goings_190 J218 x1 x2 x3 x4 x5 x6 x8 x10 sx0 h) (fun f => BX12_goings_190 (J218_ f) x1 x2 x3 x4 x5 x6 x8 x10 sx0 h) :=
  (fct_ite (mJ218 _ _ _ _ _ _ _ _ _) (fct_gd (mJ218 _ _ _ _ _ _ _ _ _)))
noncomputable def BX12_goings_218 (J60 : Int32 → Int32 → Int32 → Int32 → Int32 → Int32 → ea_H → Option (Unit × ea_H)) (J259 : Int32 → Int32 → Int32 → Int32 → Int32 → Int32 → Int32 → Int32 → ea_H → Option (Unit × ea_H)) (x1 : Int32) (x2 : Int32) (x3 : Int32) (x4 : Int32) (x5 : Int32) (x6 : Int32) (x11 : Int32) (sx0 : Int32) (h : ea_H) : Option (Unit × ea_H) :=
  (gd (vp_in x5 12000) (if (ea_i h 341 (Int32.toNatClampNeg x5)) < x11 then (J60 (x1 : Int32) (x2 : Int32) (x3 : Int32) (x4 : Int32) (x5 : Int32) ((x6 + (1 : Int32)) : Int32) h) else (gd (vp_in x5 12000) (if x11 = (ea_i h 341 (Int32.toNatClampNeg x5)) then (gd (vp_in x5 12000) (if sx0 < (ea_i h 342 (Int32.toNatClampNeg x5)) then (J259 (x1 : Int32) (x2 : Int32) (x3 : Int32) (x4 : Int32) (x5 : Int32) (x6 : Int32) (x11 : Int32) (sx0 : Int32) h) else (J60 (x1 : Int32) (x2 : Int32) (x3 : Int32) (x4 : Int32) (x5 : Int32) ((x6 + (1 : Int32)) : Int32) h))) else (J259 (x1 : Int32) (x2 : Int32) (x3 : Int32) (x4 : Int32) (x5 : Int32) (x6 : Int32) (x11 : Int32) (sx0 : Int32) h)))))
set_option maxRecDepth 100000 in
set_option maxHeartbeats 0 in
theorem tBX12_goings_218 {d : Nat} {h0 : ea_H} (hd : 2 ≤ d) {J60 : Int32 → Int32 → Int32 → Int32 → Int32 → Int32 → ea_H → Option (Unit × ea_H)} {J259 : Int32 → Int32 → Int32 → Int32 → Int32 → Int32 → Int32 → Int32 → ea_H → Option (Unit × ea_H)}  (kJ60 : ∀ (x1 : Int32) (x2 : Int32) (x3 : Int32) (x4 : Int32) (x5 : Int32) (x6 : Int32) (h : ea_H) (r : Unit) (h' : ea_H), J60 x1 x2 x3 x4 x5 x6 h = some (r, h') → ShM h → ea_W mX12_goings d h0 none h' 60 [(0, vR (some 326)), (1, vI x1), (2, vI x2), (3, vI x3), (4, vI x4), (5, vI x5), (6, vI x6)] [] h) (kJ259 : ∀ (x1 : Int32) (x2 : Int32) (x3 : Int32) (x4 : Int32) (x5 : Int32) (x6 : Int32) (x11 : Int32) (x12 : Int32) (h : ea_H) (r : Unit) (h' : ea_H), J259 x1 x2 x3 x4 x5 x6 x11 x12 h = some (r, h') → ShM h → ea_W mX12_goings d h0 none h' 259 [(0, vR (some 326)), (1, vI x1), (2, vI x2), (3, vI x3), (4, vI x4), (5, vI x5), (6, vI x6), (11, vI x11), (12, vI x12)] [] h) {x1 : Int32} {x2 : Int32} {x3 : Int32} {x4 : Int32} {x5 : Int32} {x6 : Int32} {x11 : Int32} {sx0 : Int32} {h : ea_H} {r : Unit} {h' : ea_H} (E : BX12_goings_218 J60 J259 x1 x2 x3 x4 x5 x6 x11 sx0 h = some (r, h')) (hs : ShM h) : ea_W mX12_goings d h0 none h' 218 [(0, vR (some 326)), (1, vI x1), (2, vI x2), (3, vI x3), (4, vI x4), (5, vI x5), (6, vI x6), (11, vI x11)] [vI sx0] h := by
  unfold BX12_goings_218 at E
  obtain ⟨z31, E⟩ := gd_some E
  refine ea_istore (pc := 218) (lv' := [(0, vR (some 326)), (1, vI x1), (2, vI x2), (3, vI x3), (4, vI x4), (5, vI x5), (6, vI x6), (11, vI x11), (12, vI sx0)]) dX12_goings_218 (Nat.le_of_ble_eq_true rfl) [1, 2, 3, 4, 5, 6, 7, 8, 0] rfl ?_
  refine ea_iload (pc := 220) dX12_goings_220 7 rfl ?_
  refine ea_aload_n (pc := 222) dX12_goings_222 rfl 0 rfl ?_
  refine ea_getR (pc := 223) dX12_goings_223 ec_12 (k := 19) (Nat.le_of_ble_eq_true rfl) rfl (Or.inl ew_1421) (cShM_326 hs).1 (cShM_326 hs).2.1 (rShM_326_19 hs) ?_
  refine ea_iload (pc := 226) dX12_goings_226 5 rfl ?_
  refine ea_iald (pc := 228) dX12_goings_228 (cShM_341 hs).1 (cShM_341 hs).2.1 (ea_vpl (cShM_341 hs).2.2 z31) ?_
  refine ea_icmp_gt (pc := 229) (tgt := 286) dX12_goings_229 rfl (fun c36 => ?_) (fun c36 => ?_)
  · have E := (if_pos c36).symm.trans E
    refine ea_iinc (pc := 286) (v := 1) (lv' := [(0, vR (some 326)), (1, vI x1), (2, vI x2), (3, vI x3), (4, vI x4), (5, vI x5), (6, vI (x6 + (1 : Int32)))]) dX12_goings_286 6 rfl rfl (Nat.le_of_ble_eq_true rfl) [1, 2, 3, 4, 5, 6, 0] rfl ?_
    refine ea_goto (pc := 289) (tgt := 60) dX12_goings_289 rfl ?_
    exact (kJ60 (x1 : Int32) (x2 : Int32) (x3 : Int32) (x4 : Int32) (x5 : Int32) ((x6 + (1 : Int32)) : Int32) h _ _ E hs)
  · have E := (if_neg c36).symm.trans E
    obtain ⟨z32, E⟩ := gd_some E
    refine ea_iload (pc := 232) dX12_goings_232 7 rfl ?_
    refine ea_aload_n (pc := 234) dX12_goings_234 rfl 0 rfl ?_
    refine ea_getR (pc := 235) dX12_goings_235 ec_12 (k := 19) (Nat.le_of_ble_eq_true rfl) rfl (Or.inl ew_1421) (cShM_326 hs).1 (cShM_326 hs).2.1 (rShM_326_19 hs) ?_
    refine ea_iload (pc := 238) dX12_goings_238 5 rfl ?_
    refine ea_iald (pc := 240) dX12_goings_240 (cShM_341 hs).1 (cShM_341 hs).2.1 (ea_vpl (cShM_341 hs).2.2 z32) ?_
    refine ea_icmp_ne (pc := 241) (tgt := 259) dX12_goings_241 rfl (fun c35 => ?_) (fun c35 => ?_)
    · have E := (if_neg c35).symm.trans E
      exact (kJ259 (x1 : Int32) (x2 : Int32) (x3 : Int32) (x4 : Int32) (x5 : Int32) (x6 : Int32) (x11 : Int32) (sx0 : Int32) h _ _ E hs)
    · have E := (if_pos c35).symm.trans E
      obtain ⟨z33, E⟩ := gd_some E
      refine ea_iload (pc := 244) dX12_goings_244 8 rfl ?_
      refine ea_aload_n (pc := 246) dX12_goings_246 rfl 0 rfl ?_
      refine ea_getR (pc := 247) dX12_goings_247 ec_12 (k := 20) (Nat.le_of_ble_eq_true rfl) rfl (Or.inl ew_1422) (cShM_326 hs).1 (cShM_326 hs).2.1 (rShM_326_20 hs) ?_
      refine ea_iload (pc := 250) dX12_goings_250 5 rfl ?_
      refine ea_iald (pc := 252) dX12_goings_252 (cShM_342 hs).1 (cShM_342 hs).2.1 (ea_vpl (cShM_342 hs).2.2 z33) ?_
      refine ea_icmp_lt (pc := 253) (tgt := 259) dX12_goings_253 rfl (fun c34 => ?_) (fun c34 => ?_)
      · have E := (if_pos c34).symm.trans E
        exact (kJ259 (x1 : Int32) (x2 : Int32) (x3 : Int32) (x4 : Int32) (x5 : Int32) (x6 : Int32) (x11 : Int32) (sx0 : Int32) h _ _ E hs)
      · have E := (if_neg c34).symm.trans E
        refine ea_goto (pc := 256) (tgt := 286) dX12_goings_256 rfl ?_
        refine ea_iinc (pc := 286) (v := 1) (lv' := [(0, vR (some 326)), (1, vI x1), (2, vI x2), (3, vI x3), (4, vI x4), (5, vI x5), (6, vI (x6 + (1 : Int32)))]) dX12_goings_286 6 rfl rfl (Nat.le_of_ble_eq_true rfl) [1, 2, 3, 4, 5, 6, 0] rfl ?_
        refine ea_goto (pc := 289) (tgt := 60) dX12_goings_289 rfl ?_
        exact (kJ60 (x1 : Int32) (x2 : Int32) (x3 : Int32) (x4 : Int32) (x5 : Int32) ((x6 + (1 : Int32)) : Int32) h _ _ E hs)
set_option maxRecDepth 100000 in
set_option maxHeartbeats 0 in
theorem kBX12_goings_218 {J60 : Int32 → Int32 → Int32 → Int32 → Int32 → Int32 → ea_H → Option (Unit × ea_H)} {J259 : Int32 → Int32 → Int32 → Int32 → Int32 → Int32 → Int32 → Int32 → ea_H → Option (Unit × ea_H)}  (cJ60 : ∀ (x1 : Int32) (x2 : Int32) (x3 : Int32) (x4 : Int32) (x5 : Int32) (x6 : Int32) (h : ea_H), kp (ea_core h) (J60 x1 x2 x3 x4 x5 x6 h)) (cJ259 : ∀ (x1 : Int32) (x2 : Int32) (x3 : Int32) (x4 : Int32) (x5 : Int32) (x6 : Int32) (x11 : Int32) (x12 : Int32) (h : ea_H), kp (ea_core h) (J259 x1 x2 x3 x4 x5 x6 x11 x12 h)) {x1 : Int32} {x2 : Int32} {x3 : Int32} {x4 : Int32} {x5 : Int32} {x6 : Int32} {x11 : Int32} {sx0 : Int32} {h : ea_H} : kp (ea_core h) (BX12_goings_218 J60 J259 x1 x2 x3 x4 x5 x6 x11 sx0 h) :=
  (kp_gd (kp_ite (kp_tw (cJ60 _ _ _ _ _ _ _) rfl) (kp_gd (kp_ite (kp_gd (kp_ite (kp_tw (cJ259 _ _ _ _ _ _ _ _ _) rfl) (kp_tw (cJ60 _ _ _ _ _ _ _) rfl))) (kp_tw (cJ259 _ _ _ _ _ _ _ _ _) rfl)))))
set_option maxRecDepth 100000 in
set_option maxHeartbeats 0 in
theorem lBX12_goings_218 {J60 : Int32 → Int32 → Int32 → Int32 → Int32 → Int32 → ea_H → Option (Unit × ea_H)} {J259 : Int32 → Int32 → Int32 → Int32 → Int32 → Int32 → Int32 → Int32 → ea_H → Option (Unit × ea_H)} {J60_ : Int32 → Int32 → Int32 → Int32 → Int32 → Int32 → ea_H → Option (Unit × ea_H)} {J259_ : Int32 → Int32 → Int32 → Int32 → Int32 → Int32 → Int32 → Int32 → ea_H → Option (Unit × ea_H)}  (mJ60 : ∀ (x1 : Int32) (x2 : Int32) (x3 : Int32) (x4 : Int32) (x5 : Int32) (x6 : Int32) (h : ea_H), fle (J60 x1 x2 x3 x4 x5 x6 h) (J60_ x1 x2 x3 x4 x5 x6 h)) (mJ259 : ∀ (x1 : Int32) (x2 : Int32) (x3 : Int32) (x4 : Int32) (x5 : Int32) (x6 : Int32) (x11 : Int32) (x12 : Int32) (h : ea_H), fle (J259 x1 x2 x3 x4 x5 x6 x11 x12 h) (J259_ x1 x2 x3 x4 x5 x6 x11 x12 h)) {x1 : Int32} {x2 : Int32} {x3 : Int32} {x4 : Int32} {x5 : Int32} {x6 : Int32} {x11 : Int32} {sx0 : Int32} {h : ea_H} : fle (BX12_goings_218 J60 J259 x1 x2 x3 x4 x5 x6 x11 sx0 h) (BX12_goings_218 J60_ J259_ x1 x2 x3 x4 x5 x6 x11 sx0 h) :=
  (fle_gd (fle_ite (mJ60 _ _ _ _ _ _ _) (fle_gd (fle_ite (fle_gd (fle_ite (mJ259 _ _ _ _ _ _ _ _ _) (mJ60 _ _ _ _ _ _ _))) (mJ259 _ _ _ _ _ _ _ _ _)))))
set_option maxRecDepth 100000 in
set_option maxHeartbeats 0 in
theorem nBX12_goings_218 {J60 : Int32 → Int32 → Int32 → Int32 → Int32 → Int32 → ea_H → Option (Unit × ea_H)} {J259 : Int32 → Int32 → Int32 → Int32 → Int32 → Int32 → Int32 → Int32 → ea_H → Option (Unit × ea_H)} {J60_ : Nat → (Int32 → Int32 → Int32 → Int32 → Int32 → Int32 → ea_H → Option (Unit × ea_H))} {J259_ : Nat → (Int32 → Int32 → Int32 → Int32 → Int32 → Int32 → Int32 → Int32 → ea_H → Option (Unit × ea_H))}  (mJ60 : ∀ (x1 : Int32) (x2 : Int32) (x3 : Int32) (x4 : Int32) (x5 : Int32) (x6 : Int32) (h : ea_H), fct (J60 x1 x2 x3 x4 x5 x6 h) (fun f => J60_ f x1 x2 x3 x4 x5 x6 h)) (mJ259 : ∀ (x1 : Int32) (x2 : Int32) (x3 : Int32) (x4 : Int32) (x5 : Int32) (x6 : Int32) (x11 : Int32) (x12 : Int32) (h : ea_H), fct (J259 x1 x2 x3 x4 x5 x6 x11 x12 h) (fun f => J259_ f x1 x2 x3 x4 x5 x6 x11 x12 h)) {x1 : Int32} {x2 : Int32} {x3 : Int32} {x4 : Int32} {x5 : Int32} {x6 : Int32} {x11 : Int32} {sx0 : Int32} {h : ea_H} : fct (BX12_goings_218 J60 J259 x1 x2 x3 x4 x5 x6 x11 sx0 h) (fun f => BX12_goings_218 (J60_ f) (J259_ f) x1 x2 x3 x4 x5 x6 x11 sx0 h) :=
  (fct_gd (fct_ite (mJ60 _ _ _ _ _ _ _) (fct_gd (fct_ite (fct_gd (fct_ite (mJ259 _ _ _ _ _ _ _ _ _) (mJ60 _ _ _ _ _ _ _))) (mJ259 _ _ _ _ _ _ _ _ _)))))
noncomputable def BX12_goings_259 (J60 : Int32 → Int32 → Int32 → Int32 → Int32 → Int32 → ea_H → Option (Unit × ea_H)) (x1 : Int32) (x2 : Int32) (x3 : Int32) (x4 : Int32) (x5 : Int32) (x6 : Int32) (x11 : Int32) (x12 : Int32) (h : ea_H) : Option (Unit × ea_H) :=
  (gd (vp_in x5 12000) (ea_let (ea_wi h 341 (Int32.toNatClampNeg x5) x11) fun H38 => (gd (vp_in x5 12000) (ea_let (ea_wi H38 342 (Int32.toNatClampNeg x5) x12) fun H40 => (gd (vp_in x5 12000) (ea_let (ea_wi H40 343 (Int32.toNatClampNeg x5) x6) fun H42 => (J60 (x1 : Int32) (x2 : Int32) (x3 : Int32) (x4 : Int32) (x5 : Int32) ((x6 + (1 : Int32)) : Int32) H42)))))))
set_option maxRecDepth 100000 in
set_option maxHeartbeats 0 in
theorem tBX12_goings_259 {d : Nat} {h0 : ea_H} (hd : 2 ≤ d) {J60 : Int32 → Int32 → Int32 → Int32 → Int32 → Int32 → ea_H → Option (Unit × ea_H)}  (kJ60 : ∀ (x1 : Int32) (x2 : Int32) (x3 : Int32) (x4 : Int32) (x5 : Int32) (x6 : Int32) (h : ea_H) (r : Unit) (h' : ea_H), J60 x1 x2 x3 x4 x5 x6 h = some (r, h') → ShM h → ea_W mX12_goings d h0 none h' 60 [(0, vR (some 326)), (1, vI x1), (2, vI x2), (3, vI x3), (4, vI x4), (5, vI x5), (6, vI x6)] [] h) {x1 : Int32} {x2 : Int32} {x3 : Int32} {x4 : Int32} {x5 : Int32} {x6 : Int32} {x11 : Int32} {x12 : Int32} {h : ea_H} {r : Unit} {h' : ea_H} (E : BX12_goings_259 J60 x1 x2 x3 x4 x5 x6 x11 x12 h = some (r, h')) (hs : ShM h) : ea_W mX12_goings d h0 none h' 259 [(0, vR (some 326)), (1, vI x1), (2, vI x2), (3, vI x3), (4, vI x4), (5, vI x5), (6, vI x6), (11, vI x11), (12, vI x12)] [] h := by
  unfold BX12_goings_259 at E
  obtain ⟨z37, E⟩ := gd_some E
  refine ea_aload_n (pc := 259) dX12_goings_259 rfl 0 rfl ?_
  refine ea_getR (pc := 260) dX12_goings_260 ec_12 (k := 19) (Nat.le_of_ble_eq_true rfl) rfl (Or.inl ew_1421) (cShM_326 hs).1 (cShM_326 hs).2.1 (rShM_326_19 hs) ?_
  refine ea_iload (pc := 263) dX12_goings_263 5 rfl ?_
  refine ea_iload (pc := 265) dX12_goings_265 7 rfl ?_
  obtain ⟨H38, eH38, E⟩ := let_some E
  refine ea_iast (pc := 267) dX12_goings_267 (cShM_341 hs).1 (cShM_341 hs).2.1 (ea_vpl (cShM_341 hs).2.2 z37) ?_
  refine ea_nm eH38 ?_
  have hsH38 : ShM H38 := by rw [eH38]; exact hs
  obtain ⟨z39, E⟩ := gd_some E
  refine ea_aload_n (pc := 268) dX12_goings_268 rfl 0 rfl ?_
  refine ea_getR (pc := 269) dX12_goings_269 ec_12 (k := 20) (Nat.le_of_ble_eq_true rfl) rfl (Or.inl ew_1422) (cShM_326 hsH38).1 (cShM_326 hsH38).2.1 (rShM_326_20 hsH38) ?_
  refine ea_iload (pc := 272) dX12_goings_272 5 rfl ?_
  refine ea_iload (pc := 274) dX12_goings_274 8 rfl ?_
  obtain ⟨H40, eH40, E⟩ := let_some E
  refine ea_iast (pc := 276) dX12_goings_276 (cShM_342 hsH38).1 (cShM_342 hsH38).2.1 (ea_vpl (cShM_342 hsH38).2.2 z39) ?_
  refine ea_nm eH40 ?_
  have hsH40 : ShM H40 := by rw [eH40]; exact hsH38
  obtain ⟨z41, E⟩ := gd_some E
  refine ea_aload_n (pc := 277) dX12_goings_277 rfl 0 rfl ?_
  refine ea_getR (pc := 278) dX12_goings_278 ec_12 (k := 21) (Nat.le_of_ble_eq_true rfl) rfl (Or.inl ew_1423) (cShM_326 hsH40).1 (cShM_326 hsH40).2.1 (rShM_326_21 hsH40) ?_
  refine ea_iload (pc := 281) dX12_goings_281 5 rfl ?_
  refine ea_iload (pc := 283) dX12_goings_283 6 rfl ?_
  obtain ⟨H42, eH42, E⟩ := let_some E
  refine ea_iast (pc := 285) dX12_goings_285 (cShM_343 hsH40).1 (cShM_343 hsH40).2.1 (ea_vpl (cShM_343 hsH40).2.2 z41) ?_
  refine ea_nm eH42 ?_
  have hsH42 : ShM H42 := by rw [eH42]; exact hsH40
  refine ea_iinc (pc := 286) (v := 1) (lv' := [(0, vR (some 326)), (1, vI x1), (2, vI x2), (3, vI x3), (4, vI x4), (5, vI x5), (6, vI (x6 + (1 : Int32)))]) dX12_goings_286 6 rfl rfl (Nat.le_of_ble_eq_true rfl) [1, 2, 3, 4, 5, 6, 0] rfl ?_
  refine ea_goto (pc := 289) (tgt := 60) dX12_goings_289 rfl ?_
  exact (kJ60 (x1 : Int32) (x2 : Int32) (x3 : Int32) (x4 : Int32) (x5 : Int32) ((x6 + (1 : Int32)) : Int32) H42 _ _ E hsH42)
set_option maxRecDepth 100000 in
set_option maxHeartbeats 0 in
theorem kBX12_goings_259 {J60 : Int32 → Int32 → Int32 → Int32 → Int32 → Int32 → ea_H → Option (Unit × ea_H)}  (cJ60 : ∀ (x1 : Int32) (x2 : Int32) (x3 : Int32) (x4 : Int32) (x5 : Int32) (x6 : Int32) (h : ea_H), kp (ea_core h) (J60 x1 x2 x3 x4 x5 x6 h)) {x1 : Int32} {x2 : Int32} {x3 : Int32} {x4 : Int32} {x5 : Int32} {x6 : Int32} {x11 : Int32} {x12 : Int32} {h : ea_H} : kp (ea_core h) (BX12_goings_259 J60 x1 x2 x3 x4 x5 x6 x11 x12 h) :=
  (kp_gd (kp_let (kp_gd (kp_let (kp_gd (kp_let (kp_tw (cJ60 _ _ _ _ _ _ _) rfl)))))))
set_option maxRecDepth 100000 in
set_option maxHeartbeats 0 in
theorem lBX12_goings_259 {J60 : Int32 → Int32 → Int32 → Int32 → Int32 → Int32 → ea_H → Option (Unit × ea_H)} {J60_ : Int32 → Int32 → Int32 → Int32 → Int32 → Int32 → ea_H → Option (Unit × ea_H)}  (mJ60 : ∀ (x1 : Int32) (x2 : Int32) (x3 : Int32) (x4 : Int32) (x5 : Int32) (x6 : Int32) (h : ea_H), fle (J60 x1 x2 x3 x4 x5 x6 h) (J60_ x1 x2 x3 x4 x5 x6 h)) {x1 : Int32} {x2 : Int32} {x3 : Int32} {x4 : Int32} {x5 : Int32} {x6 : Int32} {x11 : Int32} {x12 : Int32} {h : ea_H} : fle (BX12_goings_259 J60 x1 x2 x3 x4 x5 x6 x11 x12 h) (BX12_goings_259 J60_ x1 x2 x3 x4 x5 x6 x11 x12 h) :=
  (fle_gd (fle_let fun _ => (fle_gd (fle_let fun _ => (fle_gd (fle_let fun _ => (mJ60 _ _ _ _ _ _ _)))))))
set_option maxRecDepth 100000 in
set_option maxHeartbeats 0 in
theorem nBX12_goings_259 {J60 : Int32 → Int32 → Int32 → Int32 → Int32 → Int32 → ea_H → Option (Unit × ea_H)} {J60_ : Nat → (Int32 → Int32 → Int32 → Int32 → Int32 → Int32 → ea_H → Option (Unit × ea_H))}  (mJ60 : ∀ (x1 : Int32) (x2 : Int32) (x3 : Int32) (x4 : Int32) (x5 : Int32) (x6 : Int32) (h : ea_H), fct (J60 x1 x2 x3 x4 x5 x6 h) (fun f => J60_ f x1 x2 x3 x4 x5 x6 h)) {x1 : Int32} {x2 : Int32} {x3 : Int32} {x4 : Int32} {x5 : Int32} {x6 : Int32} {x11 : Int32} {x12 : Int32} {h : ea_H} : fct (BX12_goings_259 J60 x1 x2 x3 x4 x5 x6 x11 x12 h) (fun f => BX12_goings_259 (J60_ f) x1 x2 x3 x4 x5 x6 x11 x12 h) :=
  (fct_gd (fct_let fun _ => (fct_gd (fct_let fun _ => (fct_gd (fct_let fun _ => (mJ60 _ _ _ _ _ _ _)))))))
noncomputable def BX12_goings_320 (J360 : Int32 → Int32 → Int32 → ea_H → Option (Unit × ea_H)) (x1 : Int32) (x4 : Int32) (h : ea_H) : Option (Unit × ea_H) :=
  (if (ea_i h 326 1) ≤ x4 then (some ((), h)) else (gd (vp_in x1 1000) (if (ea_i h 345 (Int32.toNatClampNeg x1)) = ((-1) : Int32) then (J360 (x1 : Int32) (x4 : Int32) ((-1) : Int32) h) else (gd (vp_in x1 1000) (gd (vp_in (((12 : Int32) * (ea_i h 345 (Int32.toNatClampNeg x1))) + x4) 12000) (J360 (x1 : Int32) (x4 : Int32) ((ea_i h 344 (Int32.toNatClampNeg (((12 : Int32) * (ea_i h 345 (Int32.toNatClampNeg x1))) + x4))) : Int32) h))))))
set_option maxRecDepth 100000 in
set_option maxHeartbeats 0 in
theorem tBX12_goings_320 {d : Nat} {h0 : ea_H} (hd : 2 ≤ d) {J360 : Int32 → Int32 → Int32 → ea_H → Option (Unit × ea_H)}  (kJ360 : ∀ (x1 : Int32) (x4 : Int32) (sx0 : Int32) (h : ea_H) (r : Unit) (h' : ea_H), J360 x1 x4 sx0 h = some (r, h') → ShM h → ea_W mX12_goings d h0 none h' 360 [(0, vR (some 326)), (1, vI x1), (4, vI x4)] [vI sx0] h) {x1 : Int32} {x4 : Int32} {h : ea_H} {r : Unit} {h' : ea_H} (E : BX12_goings_320 J360 x1 x4 h = some (r, h')) (hs : ShM h) : ea_W mX12_goings d h0 none h' 320 [(0, vR (some 326)), (1, vI x1), (4, vI x4)] [] h := by
  unfold BX12_goings_320 at E
  refine ea_iload (pc := 320) dX12_goings_320 2 rfl ?_
  refine ea_aload_n (pc := 322) dX12_goings_322 rfl 0 rfl ?_
  refine ea_getI (pc := 323) dX12_goings_323 ec_12 (k := 1) (Nat.le_of_ble_eq_true rfl) rfl (Or.inl ew_1403) (cShM_326 hs).1 (cShM_326 hs).2.1 ?_
  refine ea_icmp_ge (pc := 326) (tgt := 427) dX12_goings_326 rfl (fun c47 => ?_) (fun c47 => ?_)
  · have E := (if_pos c47).symm.trans E
    exact ea_vretO (pc := 427) dX12_goings_427 rfl E
  · have E := (if_neg c47).symm.trans E
    obtain ⟨z43, E⟩ := gd_some E
    refine ea_aload_n (pc := 329) dX12_goings_329 rfl 0 rfl ?_
    refine ea_getR (pc := 330) dX12_goings_330 ec_12 (k := 23) (Nat.le_of_ble_eq_true rfl) rfl (Or.inl ew_1425) (cShM_326 hs).1 (cShM_326 hs).2.1 (rShM_326_23 hs) ?_
    refine ea_iload_n (pc := 333) dX12_goings_333 rfl 1 rfl ?_
    refine ea_iald (pc := 334) dX12_goings_334 (cShM_345 hs).1 (cShM_345 hs).2.1 (ea_vpl (cShM_345 hs).2.2 z43) ?_
    refine ea_iconst (pc := 335) dX12_goings_335 (v := (-1)) rfl ?_
    refine ea_icmp_ne (pc := 336) (tgt := 343) dX12_goings_336 rfl (fun c46 => ?_) (fun c46 => ?_)
    · have E := (if_neg c46).symm.trans E
      obtain ⟨z44, E⟩ := gd_some E
      refine ea_aload_n (pc := 343) dX12_goings_343 rfl 0 rfl ?_
      refine ea_getR (pc := 344) dX12_goings_344 ec_12 (k := 22) (Nat.le_of_ble_eq_true rfl) rfl (Or.inl ew_1424) (cShM_326 hs).1 (cShM_326 hs).2.1 (rShM_326_22 hs) ?_
      refine ea_bipush (pc := 347) dX12_goings_347 (v := 12) rfl ?_
      refine ea_aload_n (pc := 349) dX12_goings_349 rfl 0 rfl ?_
      refine ea_getR (pc := 350) dX12_goings_350 ec_12 (k := 23) (Nat.le_of_ble_eq_true rfl) rfl (Or.inl ew_1425) (cShM_326 hs).1 (cShM_326 hs).2.1 (rShM_326_23 hs) ?_
      refine ea_iload_n (pc := 353) dX12_goings_353 rfl 1 rfl ?_
      obtain ⟨z45, E⟩ := gd_some E
      refine ea_iald (pc := 354) dX12_goings_354 (cShM_345 hs).1 (cShM_345 hs).2.1 (ea_vpl (cShM_345 hs).2.2 z44) ?_
      refine ea_imul (pc := 355) dX12_goings_355 ?_
      refine ea_iload (pc := 356) dX12_goings_356 2 rfl ?_
      refine ea_iadd (pc := 358) dX12_goings_358 ?_
      refine ea_iald (pc := 359) dX12_goings_359 (cShM_344 hs).1 (cShM_344 hs).2.1 (ea_vpl (cShM_344 hs).2.2 z45) ?_
      exact (kJ360 (x1 : Int32) (x4 : Int32) ((ea_i h 344 (Int32.toNatClampNeg (((12 : Int32) * (ea_i h 345 (Int32.toNatClampNeg x1))) + x4))) : Int32) h _ _ E hs)
    · have E := (if_pos c46).symm.trans E
      refine ea_iconst (pc := 339) dX12_goings_339 (v := (-1)) rfl ?_
      refine ea_goto (pc := 340) (tgt := 360) dX12_goings_340 rfl ?_
      exact (kJ360 (x1 : Int32) (x4 : Int32) ((-1) : Int32) h _ _ E hs)
set_option maxRecDepth 100000 in
set_option maxHeartbeats 0 in
theorem kBX12_goings_320 {J360 : Int32 → Int32 → Int32 → ea_H → Option (Unit × ea_H)}  (cJ360 : ∀ (x1 : Int32) (x4 : Int32) (sx0 : Int32) (h : ea_H), kp (ea_core h) (J360 x1 x4 sx0 h)) {x1 : Int32} {x4 : Int32} {h : ea_H} : kp (ea_core h) (BX12_goings_320 J360 x1 x4 h) :=
  (kp_ite (kp_ret rfl) (kp_gd (kp_ite (kp_tw (cJ360 _ _ _ _) rfl) (kp_gd (kp_gd (kp_tw (cJ360 _ _ _ _) rfl))))))
set_option maxRecDepth 100000 in
set_option maxHeartbeats 0 in
theorem lBX12_goings_320 {J360 : Int32 → Int32 → Int32 → ea_H → Option (Unit × ea_H)} {J360_ : Int32 → Int32 → Int32 → ea_H → Option (Unit × ea_H)}  (mJ360 : ∀ (x1 : Int32) (x4 : Int32) (sx0 : Int32) (h : ea_H), fle (J360 x1 x4 sx0 h) (J360_ x1 x4 sx0 h)) {x1 : Int32} {x4 : Int32} {h : ea_H} : fle (BX12_goings_320 J360 x1 x4 h) (BX12_goings_320 J360_ x1 x4 h) :=
  (fle_ite (fle_rfl _) (fle_gd (fle_ite (mJ360 _ _ _ _) (fle_gd (fle_gd (mJ360 _ _ _ _))))))
set_option maxRecDepth 100000 in
set_option maxHeartbeats 0 in
theorem nBX12_goings_320 {J360 : Int32 → Int32 → Int32 → ea_H → Option (Unit × ea_H)} {J360_ : Nat → (Int32 → Int32 → Int32 → ea_H → Option (Unit × ea_H))}  (mJ360 : ∀ (x1 : Int32) (x4 : Int32) (sx0 : Int32) (h : ea_H), fct (J360 x1 x4 sx0 h) (fun f => J360_ f x1 x4 sx0 h)) {x1 : Int32} {x4 : Int32} {h : ea_H} : fct (BX12_goings_320 J360 x1 x4 h) (fun f => BX12_goings_320 (J360_ f) x1 x4 h) :=
  (fct_ite (fct_rfl _) (fct_gd (fct_ite (mJ360 _ _ _ _) (fct_gd (fct_gd (mJ360 _ _ _ _))))))
noncomputable def BX12_goings_360 (J320 : Int32 → Int32 → ea_H → Option (Unit × ea_H)) (x1 : Int32) (x4 : Int32) (sx0 : Int32) (h : ea_H) : Option (Unit × ea_H) :=
  (gd (vp_in (((12 : Int32) * x1) + x4) 12000) (if (ea_i h 341 (Int32.toNatClampNeg (((12 : Int32) * x1) + x4))) = (1000000 : Int32) then (gd (vp_in (((12 : Int32) * x1) + x4) 12000) (ea_let (ea_wi h 344 (Int32.toNatClampNeg (((12 : Int32) * x1) + x4)) sx0) fun H59 => (J320 (x1 : Int32) ((x4 + (1 : Int32)) : Int32) H59))) else (if sx0 = ((-1) : Int32) then (gd (vp_in (((12 : Int32) * x1) + x4) 12000) (ea_let (ea_wi h 344 (Int32.toNatClampNeg (((12 : Int32) * x1) + x4)) x1) fun H50 => (J320 (x1 : Int32) ((x4 + (1 : Int32)) : Int32) H50))) else (Option.bind (qX12_isBetter (x1 : Int32) (sx0 : Int32) (x4 : Int32) h) fun w51 => (if w51.1 = (0 : Int32) then (gd (vp_in (((12 : Int32) * x1) + x4) 12000) (ea_let (ea_wi w51.2 344 (Int32.toNatClampNeg (((12 : Int32) * x1) + x4)) sx0) fun H53 => (J320 (x1 : Int32) ((x4 + (1 : Int32)) : Int32) H53))) else (gd (vp_in (((12 : Int32) * x1) + x4) 12000) (ea_let (ea_wi w51.2 344 (Int32.toNatClampNeg (((12 : Int32) * x1) + x4)) x1) fun H55 => (J320 (x1 : Int32) ((x4 + (1 : Int32)) : Int32) H55))))))))
set_option maxRecDepth 100000 in
set_option maxHeartbeats 0 in
theorem tBX12_goings_360 {d : Nat} {h0 : ea_H} (hd : 2 ≤ d) {J320 : Int32 → Int32 → ea_H → Option (Unit × ea_H)}  (kJ320 : ∀ (x1 : Int32) (x4 : Int32) (h : ea_H) (r : Unit) (h' : ea_H), J320 x1 x4 h = some (r, h') → ShM h → ea_W mX12_goings d h0 none h' 320 [(0, vR (some 326)), (1, vI x1), (4, vI x4)] [] h) {x1 : Int32} {x4 : Int32} {sx0 : Int32} {h : ea_H} {r : Unit} {h' : ea_H} (E : BX12_goings_360 J320 x1 x4 sx0 h = some (r, h')) (hs : ShM h) : ea_W mX12_goings d h0 none h' 360 [(0, vR (some 326)), (1, vI x1), (4, vI x4)] [vI sx0] h := by
  unfold BX12_goings_360 at E
  obtain ⟨z48, E⟩ := gd_some E
  refine ea_istore (pc := 360) (lv' := [(0, vR (some 326)), (1, vI x1), (4, vI x4), (5, vI sx0)]) dX12_goings_360 (Nat.le_of_ble_eq_true rfl) [1, 2, 3, 0] rfl ?_
  refine ea_aload_n (pc := 362) dX12_goings_362 rfl 0 rfl ?_
  refine ea_getR (pc := 363) dX12_goings_363 ec_12 (k := 22) (Nat.le_of_ble_eq_true rfl) rfl (Or.inl ew_1424) (cShM_326 hs).1 (cShM_326 hs).2.1 (rShM_326_22 hs) ?_
  refine ea_bipush (pc := 366) dX12_goings_366 (v := 12) rfl ?_
  refine ea_iload_n (pc := 368) dX12_goings_368 rfl 1 rfl ?_
  refine ea_imul (pc := 369) dX12_goings_369 ?_
  refine ea_iload (pc := 370) dX12_goings_370 2 rfl ?_
  refine ea_iadd (pc := 372) dX12_goings_372 ?_
  refine ea_aload_n (pc := 373) dX12_goings_373 rfl 0 rfl ?_
  refine ea_getR (pc := 374) dX12_goings_374 ec_12 (k := 19) (Nat.le_of_ble_eq_true rfl) rfl (Or.inl ew_1421) (cShM_326 hs).1 (cShM_326 hs).2.1 (rShM_326_19 hs) ?_
  refine ea_bipush (pc := 377) dX12_goings_377 (v := 12) rfl ?_
  refine ea_iload_n (pc := 379) dX12_goings_379 rfl 1 rfl ?_
  refine ea_imul (pc := 380) dX12_goings_380 ?_
  refine ea_iload (pc := 381) dX12_goings_381 2 rfl ?_
  refine ea_iadd (pc := 383) dX12_goings_383 ?_
  refine ea_iald (pc := 384) dX12_goings_384 (cShM_341 hs).1 (cShM_341 hs).2.1 (ea_vpl (cShM_341 hs).2.2 z48) ?_
  refine ea_ldcw (pc := 385) dX12_goings_385 ew_1784 ?_
  refine ea_icmp_ne (pc := 388) (tgt := 396) dX12_goings_388 rfl (fun c60 => ?_) (fun c60 => ?_)
  · have E := (if_neg c60).symm.trans E
    refine ea_iload (pc := 396) dX12_goings_396 3 rfl ?_
    refine ea_iconst (pc := 398) dX12_goings_398 (v := (-1)) rfl ?_
    refine ea_icmp_eq (pc := 399) (tgt := 414) dX12_goings_399 rfl (fun c57 => ?_) (fun c57 => ?_)
    · have E := (if_pos c57).symm.trans E
      obtain ⟨z49, E⟩ := gd_some E
      refine ea_iload_n (pc := 414) dX12_goings_414 rfl 1 rfl ?_
      refine ea_goto (pc := 415) (tgt := 420) dX12_goings_415 rfl ?_
      obtain ⟨H50, eH50, E⟩ := let_some E
      refine ea_iast (pc := 420) dX12_goings_420 (cShM_344 hs).1 (cShM_344 hs).2.1 (ea_vpl (cShM_344 hs).2.2 z49) ?_
      refine ea_nm eH50 ?_
      have hsH50 : ShM H50 := by rw [eH50]; exact hs
      refine ea_iinc (pc := 421) (v := 1) (lv' := [(0, vR (some 326)), (1, vI x1), (4, vI (x4 + (1 : Int32)))]) dX12_goings_421 2 rfl rfl (Nat.le_of_ble_eq_true rfl) [1, 2, 0] rfl ?_
      refine ea_goto (pc := 424) (tgt := 320) dX12_goings_424 rfl ?_
      exact (kJ320 (x1 : Int32) ((x4 + (1 : Int32)) : Int32) H50 _ _ E hsH50)
    · have E := (if_neg c57).symm.trans E
      obtain ⟨w51, Ew51, E⟩ := bd_some E
      have hsw51 : ShM w51.2 := ShM_core ((kpX12_isBetter _ _ _ _) _ Ew51) hs
      refine ea_aload_n (pc := 402) dX12_goings_402 rfl 0 rfl ?_
      refine ea_iload_n (pc := 403) dX12_goings_403 rfl 1 rfl ?_
      refine ea_iload (pc := 404) dX12_goings_404 3 rfl ?_
      refine ea_iload (pc := 406) dX12_goings_406 2 rfl ?_
      refine ea_callV (pc := 408) (d' := d - 1) (As := [vI x1, vI sx0, vI x4]) (st := [vI (((12 : Int32) * x1) + x4), vR (some 344)]) dX12_goings_408 kX12_isBetter (sX12_isBetter (d := d - 1) (by omega) hs Ew51) (by omega) rfl (Nat.le_of_ble_eq_true rfl) ew_1863 ew_1865 ew_69 (ci := 12) rfl (by decide) (cShM_326 hs).1 (cShM_326 hs).2.1 ?_
      refine ea_if_eq (pc := 411) (tgt := 418) dX12_goings_411 rfl (fun c56 => ?_) (fun c56 => ?_)
      · have E := (if_pos c56).symm.trans E
        obtain ⟨z52, E⟩ := gd_some E
        refine ea_iload (pc := 418) dX12_goings_418 3 rfl ?_
        obtain ⟨H53, eH53, E⟩ := let_some E
        refine ea_iast (pc := 420) dX12_goings_420 (cShM_344 hsw51).1 (cShM_344 hsw51).2.1 (ea_vpl (cShM_344 hsw51).2.2 z52) ?_
        refine ea_nm eH53 ?_
        have hsH53 : ShM H53 := by rw [eH53]; exact hsw51
        refine ea_iinc (pc := 421) (v := 1) (lv' := [(0, vR (some 326)), (1, vI x1), (4, vI (x4 + (1 : Int32)))]) dX12_goings_421 2 rfl rfl (Nat.le_of_ble_eq_true rfl) [1, 2, 0] rfl ?_
        refine ea_goto (pc := 424) (tgt := 320) dX12_goings_424 rfl ?_
        exact (kJ320 (x1 : Int32) ((x4 + (1 : Int32)) : Int32) H53 _ _ E hsH53)
      · have E := (if_neg c56).symm.trans E
        obtain ⟨z54, E⟩ := gd_some E
        refine ea_iload_n (pc := 414) dX12_goings_414 rfl 1 rfl ?_
        refine ea_goto (pc := 415) (tgt := 420) dX12_goings_415 rfl ?_
        obtain ⟨H55, eH55, E⟩ := let_some E
        refine ea_iast (pc := 420) dX12_goings_420 (cShM_344 hsw51).1 (cShM_344 hsw51).2.1 (ea_vpl (cShM_344 hsw51).2.2 z54) ?_
        refine ea_nm eH55 ?_
        have hsH55 : ShM H55 := by rw [eH55]; exact hsw51
        refine ea_iinc (pc := 421) (v := 1) (lv' := [(0, vR (some 326)), (1, vI x1), (4, vI (x4 + (1 : Int32)))]) dX12_goings_421 2 rfl rfl (Nat.le_of_ble_eq_true rfl) [1, 2, 0] rfl ?_
        refine ea_goto (pc := 424) (tgt := 320) dX12_goings_424 rfl ?_
        exact (kJ320 (x1 : Int32) ((x4 + (1 : Int32)) : Int32) H55 _ _ E hsH55)
  · have E := (if_pos c60).symm.trans E
    obtain ⟨z58, E⟩ := gd_some E
    refine ea_iload (pc := 391) dX12_goings_391 3 rfl ?_
    refine ea_goto (pc := 393) (tgt := 420) dX12_goings_393 rfl ?_
    obtain ⟨H59, eH59, E⟩ := let_some E
    refine ea_iast (pc := 420) dX12_goings_420 (cShM_344 hs).1 (cShM_344 hs).2.1 (ea_vpl (cShM_344 hs).2.2 z58) ?_
    refine ea_nm eH59 ?_
    have hsH59 : ShM H59 := by rw [eH59]; exact hs
    refine ea_iinc (pc := 421) (v := 1) (lv' := [(0, vR (some 326)), (1, vI x1), (4, vI (x4 + (1 : Int32)))]) dX12_goings_421 2 rfl rfl (Nat.le_of_ble_eq_true rfl) [1, 2, 0] rfl ?_
    refine ea_goto (pc := 424) (tgt := 320) dX12_goings_424 rfl ?_
    exact (kJ320 (x1 : Int32) ((x4 + (1 : Int32)) : Int32) H59 _ _ E hsH59)
set_option maxRecDepth 100000 in
set_option maxHeartbeats 0 in
theorem kBX12_goings_360 {J320 : Int32 → Int32 → ea_H → Option (Unit × ea_H)}  (cJ320 : ∀ (x1 : Int32) (x4 : Int32) (h : ea_H), kp (ea_core h) (J320 x1 x4 h)) {x1 : Int32} {x4 : Int32} {sx0 : Int32} {h : ea_H} : kp (ea_core h) (BX12_goings_360 J320 x1 x4 sx0 h) :=
  (kp_gd (kp_ite (kp_gd (kp_let (kp_tw (cJ320 _ _ _) rfl))) (kp_ite (kp_gd (kp_let (kp_tw (cJ320 _ _ _) rfl))) (kp_bind (kp_tw (kpX12_isBetter _ _ _ _) rfl) fun w51 hcw51 => (kp_ite (kp_gd (kp_let (kp_tw (cJ320 _ _ _) hcw51))) (kp_gd (kp_let (kp_tw (cJ320 _ _ _) hcw51))))))))
set_option maxRecDepth 100000 in
set_option maxHeartbeats 0 in
theorem lBX12_goings_360 {J320 : Int32 → Int32 → ea_H → Option (Unit × ea_H)} {J320_ : Int32 → Int32 → ea_H → Option (Unit × ea_H)}  (mJ320 : ∀ (x1 : Int32) (x4 : Int32) (h : ea_H), fle (J320 x1 x4 h) (J320_ x1 x4 h)) {x1 : Int32} {x4 : Int32} {sx0 : Int32} {h : ea_H} : fle (BX12_goings_360 J320 x1 x4 sx0 h) (BX12_goings_360 J320_ x1 x4 sx0 h) :=
  (fle_gd (fle_ite (fle_gd (fle_let fun _ => (mJ320 _ _ _))) (fle_ite (fle_gd (fle_let fun _ => (mJ320 _ _ _))) (fle_bind (fle_rfl _) fun _ => (fle_ite (fle_gd (fle_let fun _ => (mJ320 _ _ _))) (fle_gd (fle_let fun _ => (mJ320 _ _ _))))))))
set_option maxRecDepth 100000 in
set_option maxHeartbeats 0 in
theorem nBX12_goings_360 {J320 : Int32 → Int32 → ea_H → Option (Unit × ea_H)} {J320_ : Nat → (Int32 → Int32 → ea_H → Option (Unit × ea_H))}  (mJ320 : ∀ (x1 : Int32) (x4 : Int32) (h : ea_H), fct (J320 x1 x4 h) (fun f => J320_ f x1 x4 h)) {x1 : Int32} {x4 : Int32} {sx0 : Int32} {h : ea_H} : fct (BX12_goings_360 J320 x1 x4 sx0 h) (fun f => BX12_goings_360 (J320_ f) x1 x4 sx0 h) :=
  (fct_gd (fct_ite (fct_gd (fct_let fun _ => (mJ320 _ _ _))) (fct_ite (fct_gd (fct_let fun _ => (mJ320 _ _ _))) (fct_bind (fct_rfl _) fun _ => (fct_ite (fct_gd (fct_let fun _ => (mJ320 _ _ _))) (fct_gd (fct_let fun _ => (mJ320 _ _ _))))))))
noncomputable def gX12_goings : Nat → (Int32 → ea_H → Option (Unit × ea_H)) × (Int32 → Int32 → Int32 → Int32 → ea_H → Option (Unit × ea_H)) × (Int32 → Int32 → Int32 → Int32 → Int32 → Int32 → ea_H → Option (Unit × ea_H)) × (Int32 → Int32 → Int32 → Int32 → Int32 → Int32 → Int32 → Int32 → Int32 → ea_H → Option (Unit × ea_H)) × (Int32 → Int32 → Int32 → Int32 → Int32 → Int32 → Int32 → Int32 → Int32 → ea_H → Option (Unit × ea_H)) × (Int32 → Int32 → Int32 → Int32 → Int32 → Int32 → Int32 → Int32 → Int32 → ea_H → Option (Unit × ea_H)) × (Int32 → Int32 → Int32 → Int32 → Int32 → Int32 → Int32 → Int32 → Int32 → ea_H → Option (Unit × ea_H)) × (Int32 → Int32 → Int32 → Int32 → Int32 → Int32 → Int32 → Int32 → ea_H → Option (Unit × ea_H)) × (Int32 → Int32 → Int32 → Int32 → Int32 → Int32 → Int32 → Int32 → ea_H → Option (Unit × ea_H)) × (Int32 → Int32 → ea_H → Option (Unit × ea_H)) × (Int32 → Int32 → Int32 → ea_H → Option (Unit × ea_H))
  | 0 => (fun _ _ => none, fun _ _ _ _ _ => none, fun _ _ _ _ _ _ _ => none, fun _ _ _ _ _ _ _ _ _ _ => none, fun _ _ _ _ _ _ _ _ _ _ => none, fun _ _ _ _ _ _ _ _ _ _ => none, fun _ _ _ _ _ _ _ _ _ _ => none, fun _ _ _ _ _ _ _ _ _ => none, fun _ _ _ _ _ _ _ _ _ => none, fun _ _ _ => none, fun _ _ _ _ => none)
  | f + 1 => (BX12_goings_0 (gX12_goings f).2.1, BX12_goings_22 (gX12_goings f).2.2.1 (gX12_goings f).2.2.2.2.2.2.2.2.2.1, BX12_goings_60 (gX12_goings f).2.1 (gX12_goings f).2.2.2.1, BX12_goings_122 (gX12_goings f).2.2.2.2.1, BX12_goings_147 (gX12_goings f).2.2.1 (gX12_goings f).2.2.2.2.2.1, BX12_goings_165 (gX12_goings f).2.2.2.2.2.2.1, BX12_goings_190 (gX12_goings f).2.2.2.2.2.2.2.1, BX12_goings_218 (gX12_goings f).2.2.1 (gX12_goings f).2.2.2.2.2.2.2.2.1, BX12_goings_259 (gX12_goings f).2.2.1, BX12_goings_320 (gX12_goings f).2.2.2.2.2.2.2.2.2.2, BX12_goings_360 (gX12_goings f).2.2.2.2.2.2.2.2.2.1)
theorem mgX12_goings : ∀ f : Nat, (∀ (x1 : Int32) (h : ea_H), fle ((gX12_goings f).1 x1 h) ((gX12_goings (f + 1)).1 x1 h)) ∧ (∀ (x1 : Int32) (x2 : Int32) (x3 : Int32) (x4 : Int32) (h : ea_H), fle ((gX12_goings f).2.1 x1 x2 x3 x4 h) ((gX12_goings (f + 1)).2.1 x1 x2 x3 x4 h)) ∧ (∀ (x1 : Int32) (x2 : Int32) (x3 : Int32) (x4 : Int32) (x5 : Int32) (x6 : Int32) (h : ea_H), fle ((gX12_goings f).2.2.1 x1 x2 x3 x4 x5 x6 h) ((gX12_goings (f + 1)).2.2.1 x1 x2 x3 x4 x5 x6 h)) ∧ (∀ (x1 : Int32) (x2 : Int32) (x3 : Int32) (x4 : Int32) (x5 : Int32) (x6 : Int32) (x7 : Int32) (x8 : Int32) (sx0 : Int32) (h : ea_H), fle ((gX12_goings f).2.2.2.1 x1 x2 x3 x4 x5 x6 x7 x8 sx0 h) ((gX12_goings (f + 1)).2.2.2.1 x1 x2 x3 x4 x5 x6 x7 x8 sx0 h)) ∧ (∀ (x1 : Int32) (x2 : Int32) (x3 : Int32) (x4 : Int32) (x5 : Int32) (x6 : Int32) (x7 : Int32) (x8 : Int32) (sx0 : Int32) (h : ea_H), fle ((gX12_goings f).2.2.2.2.1 x1 x2 x3 x4 x5 x6 x7 x8 sx0 h) ((gX12_goings (f + 1)).2.2.2.2.1 x1 x2 x3 x4 x5 x6 x7 x8 sx0 h)) ∧ (∀ (x1 : Int32) (x2 : Int32) (x3 : Int32) (x4 : Int32) (x5 : Int32) (x6 : Int32) (x7 : Int32) (x8 : Int32) (x10 : Int32) (h : ea_H), fle ((gX12_goings f).2.2.2.2.2.1 x1 x2 x3 x4 x5 x6 x7 x8 x10 h) ((gX12_goings (f + 1)).2.2.2.2.2.1 x1 x2 x3 x4 x5 x6 x7 x8 x10 h)) ∧ (∀ (x1 : Int32) (x2 : Int32) (x3 : Int32) (x4 : Int32) (x5 : Int32) (x6 : Int32) (x8 : Int32) (x10 : Int32) (sx0 : Int32) (h : ea_H), fle ((gX12_goings f).2.2.2.2.2.2.1 x1 x2 x3 x4 x5 x6 x8 x10 sx0 h) ((gX12_goings (f + 1)).2.2.2.2.2.2.1 x1 x2 x3 x4 x5 x6 x8 x10 sx0 h)) ∧ (∀ (x1 : Int32) (x2 : Int32) (x3 : Int32) (x4 : Int32) (x5 : Int32) (x6 : Int32) (x11 : Int32) (sx0 : Int32) (h : ea_H), fle ((gX12_goings f).2.2.2.2.2.2.2.1 x1 x2 x3 x4 x5 x6 x11 sx0 h) ((gX12_goings (f + 1)).2.2.2.2.2.2.2.1 x1 x2 x3 x4 x5 x6 x11 sx0 h)) ∧ (∀ (x1 : Int32) (x2 : Int32) (x3 : Int32) (x4 : Int32) (x5 : Int32) (x6 : Int32) (x11 : Int32) (x12 : Int32) (h : ea_H), fle ((gX12_goings f).2.2.2.2.2.2.2.2.1 x1 x2 x3 x4 x5 x6 x11 x12 h) ((gX12_goings (f + 1)).2.2.2.2.2.2.2.2.1 x1 x2 x3 x4 x5 x6 x11 x12 h)) ∧ (∀ (x1 : Int32) (x4 : Int32) (h : ea_H), fle ((gX12_goings f).2.2.2.2.2.2.2.2.2.1 x1 x4 h) ((gX12_goings (f + 1)).2.2.2.2.2.2.2.2.2.1 x1 x4 h)) ∧ (∀ (x1 : Int32) (x4 : Int32) (sx0 : Int32) (h : ea_H), fle ((gX12_goings f).2.2.2.2.2.2.2.2.2.2 x1 x4 sx0 h) ((gX12_goings (f + 1)).2.2.2.2.2.2.2.2.2.2 x1 x4 sx0 h)) := by
  intro f
  induction f with
  | zero => exact ⟨fun _ _ => fle_none _, fun _ _ _ _ _ => fle_none _, fun _ _ _ _ _ _ _ => fle_none _, fun _ _ _ _ _ _ _ _ _ _ => fle_none _, fun _ _ _ _ _ _ _ _ _ _ => fle_none _, fun _ _ _ _ _ _ _ _ _ _ => fle_none _, fun _ _ _ _ _ _ _ _ _ _ => fle_none _, fun _ _ _ _ _ _ _ _ _ => fle_none _, fun _ _ _ _ _ _ _ _ _ => fle_none _, fun _ _ _ => fle_none _, fun _ _ _ _ => fle_none _⟩
  | succ f ih => exact ⟨fun _ _ => lBX12_goings_0 ih.2.1, fun _ _ _ _ _ => lBX12_goings_22 ih.2.2.1 ih.2.2.2.2.2.2.2.2.2.1, fun _ _ _ _ _ _ _ => lBX12_goings_60 ih.2.1 ih.2.2.2.1, fun _ _ _ _ _ _ _ _ _ _ => lBX12_goings_122 ih.2.2.2.2.1, fun _ _ _ _ _ _ _ _ _ _ => lBX12_goings_147 ih.2.2.1 ih.2.2.2.2.2.1, fun _ _ _ _ _ _ _ _ _ _ => lBX12_goings_165 ih.2.2.2.2.2.2.1, fun _ _ _ _ _ _ _ _ _ _ => lBX12_goings_190 ih.2.2.2.2.2.2.2.1, fun _ _ _ _ _ _ _ _ _ => lBX12_goings_218 ih.2.2.1 ih.2.2.2.2.2.2.2.2.1, fun _ _ _ _ _ _ _ _ _ => lBX12_goings_259 ih.2.2.1, fun _ _ _ => lBX12_goings_320 ih.2.2.2.2.2.2.2.2.2.2, fun _ _ _ _ => lBX12_goings_360 ih.2.2.2.2.2.2.2.2.2.1⟩
noncomputable def qX12_goings_0 (x1 : Int32) (h : ea_H) : Option (Unit × ea_H) := flim fun f => (gX12_goings f).1 x1 h
noncomputable def qX12_goings_22 (x1 : Int32) (x2 : Int32) (x3 : Int32) (x4 : Int32) (h : ea_H) : Option (Unit × ea_H) := flim fun f => (gX12_goings f).2.1 x1 x2 x3 x4 h
noncomputable def qX12_goings_60 (x1 : Int32) (x2 : Int32) (x3 : Int32) (x4 : Int32) (x5 : Int32) (x6 : Int32) (h : ea_H) : Option (Unit × ea_H) := flim fun f => (gX12_goings f).2.2.1 x1 x2 x3 x4 x5 x6 h
noncomputable def qX12_goings_122 (x1 : Int32) (x2 : Int32) (x3 : Int32) (x4 : Int32) (x5 : Int32) (x6 : Int32) (x7 : Int32) (x8 : Int32) (sx0 : Int32) (h : ea_H) : Option (Unit × ea_H) := flim fun f => (gX12_goings f).2.2.2.1 x1 x2 x3 x4 x5 x6 x7 x8 sx0 h
noncomputable def qX12_goings_147 (x1 : Int32) (x2 : Int32) (x3 : Int32) (x4 : Int32) (x5 : Int32) (x6 : Int32) (x7 : Int32) (x8 : Int32) (sx0 : Int32) (h : ea_H) : Option (Unit × ea_H) := flim fun f => (gX12_goings f).2.2.2.2.1 x1 x2 x3 x4 x5 x6 x7 x8 sx0 h
noncomputable def qX12_goings_165 (x1 : Int32) (x2 : Int32) (x3 : Int32) (x4 : Int32) (x5 : Int32) (x6 : Int32) (x7 : Int32) (x8 : Int32) (x10 : Int32) (h : ea_H) : Option (Unit × ea_H) := flim fun f => (gX12_goings f).2.2.2.2.2.1 x1 x2 x3 x4 x5 x6 x7 x8 x10 h
noncomputable def qX12_goings_190 (x1 : Int32) (x2 : Int32) (x3 : Int32) (x4 : Int32) (x5 : Int32) (x6 : Int32) (x8 : Int32) (x10 : Int32) (sx0 : Int32) (h : ea_H) : Option (Unit × ea_H) := flim fun f => (gX12_goings f).2.2.2.2.2.2.1 x1 x2 x3 x4 x5 x6 x8 x10 sx0 h
noncomputable def qX12_goings_218 (x1 : Int32) (x2 : Int32) (x3 : Int32) (x4 : Int32) (x5 : Int32) (x6 : Int32) (x11 : Int32) (sx0 : Int32) (h : ea_H) : Option (Unit × ea_H) := flim fun f => (gX12_goings f).2.2.2.2.2.2.2.1 x1 x2 x3 x4 x5 x6 x11 sx0 h
noncomputable def qX12_goings_259 (x1 : Int32) (x2 : Int32) (x3 : Int32) (x4 : Int32) (x5 : Int32) (x6 : Int32) (x11 : Int32) (x12 : Int32) (h : ea_H) : Option (Unit × ea_H) := flim fun f => (gX12_goings f).2.2.2.2.2.2.2.2.1 x1 x2 x3 x4 x5 x6 x11 x12 h
noncomputable def qX12_goings_320 (x1 : Int32) (x4 : Int32) (h : ea_H) : Option (Unit × ea_H) := flim fun f => (gX12_goings f).2.2.2.2.2.2.2.2.2.1 x1 x4 h
noncomputable def qX12_goings_360 (x1 : Int32) (x4 : Int32) (sx0 : Int32) (h : ea_H) : Option (Unit × ea_H) := flim fun f => (gX12_goings f).2.2.2.2.2.2.2.2.2.2 x1 x4 sx0 h
theorem fqX12_goings_0 (x1 : Int32) (h : ea_H) : fct (qX12_goings_0 x1 h) fun f => (gX12_goings f).1 x1 h := flim_ct fun f => (mgX12_goings f).1 x1 h
theorem fqX12_goings_22 (x1 : Int32) (x2 : Int32) (x3 : Int32) (x4 : Int32) (h : ea_H) : fct (qX12_goings_22 x1 x2 x3 x4 h) fun f => (gX12_goings f).2.1 x1 x2 x3 x4 h := flim_ct fun f => (mgX12_goings f).2.1 x1 x2 x3 x4 h
theorem fqX12_goings_60 (x1 : Int32) (x2 : Int32) (x3 : Int32) (x4 : Int32) (x5 : Int32) (x6 : Int32) (h : ea_H) : fct (qX12_goings_60 x1 x2 x3 x4 x5 x6 h) fun f => (gX12_goings f).2.2.1 x1 x2 x3 x4 x5 x6 h := flim_ct fun f => (mgX12_goings f).2.2.1 x1 x2 x3 x4 x5 x6 h
theorem fqX12_goings_122 (x1 : Int32) (x2 : Int32) (x3 : Int32) (x4 : Int32) (x5 : Int32) (x6 : Int32) (x7 : Int32) (x8 : Int32) (sx0 : Int32) (h : ea_H) : fct (qX12_goings_122 x1 x2 x3 x4 x5 x6 x7 x8 sx0 h) fun f => (gX12_goings f).2.2.2.1 x1 x2 x3 x4 x5 x6 x7 x8 sx0 h := flim_ct fun f => (mgX12_goings f).2.2.2.1 x1 x2 x3 x4 x5 x6 x7 x8 sx0 h
theorem fqX12_goings_147 (x1 : Int32) (x2 : Int32) (x3 : Int32) (x4 : Int32) (x5 : Int32) (x6 : Int32) (x7 : Int32) (x8 : Int32) (sx0 : Int32) (h : ea_H) : fct (qX12_goings_147 x1 x2 x3 x4 x5 x6 x7 x8 sx0 h) fun f => (gX12_goings f).2.2.2.2.1 x1 x2 x3 x4 x5 x6 x7 x8 sx0 h := flim_ct fun f => (mgX12_goings f).2.2.2.2.1 x1 x2 x3 x4 x5 x6 x7 x8 sx0 h
theorem fqX12_goings_165 (x1 : Int32) (x2 : Int32) (x3 : Int32) (x4 : Int32) (x5 : Int32) (x6 : Int32) (x7 : Int32) (x8 : Int32) (x10 : Int32) (h : ea_H) : fct (qX12_goings_165 x1 x2 x3 x4 x5 x6 x7 x8 x10 h) fun f => (gX12_goings f).2.2.2.2.2.1 x1 x2 x3 x4 x5 x6 x7 x8 x10 h := flim_ct fun f => (mgX12_goings f).2.2.2.2.2.1 x1 x2 x3 x4 x5 x6 x7 x8 x10 h
theorem fqX12_goings_190 (x1 : Int32) (x2 : Int32) (x3 : Int32) (x4 : Int32) (x5 : Int32) (x6 : Int32) (x8 : Int32) (x10 : Int32) (sx0 : Int32) (h : ea_H) : fct (qX12_goings_190 x1 x2 x3 x4 x5 x6 x8 x10 sx0 h) fun f => (gX12_goings f).2.2.2.2.2.2.1 x1 x2 x3 x4 x5 x6 x8 x10 sx0 h := flim_ct fun f => (mgX12_goings f).2.2.2.2.2.2.1 x1 x2 x3 x4 x5 x6 x8 x10 sx0 h
theorem fqX12_goings_218 (x1 : Int32) (x2 : Int32) (x3 : Int32) (x4 : Int32) (x5 : Int32) (x6 : Int32) (x11 : Int32) (sx0 : Int32) (h : ea_H) : fct (qX12_goings_218 x1 x2 x3 x4 x5 x6 x11 sx0 h) fun f => (gX12_goings f).2.2.2.2.2.2.2.1 x1 x2 x3 x4 x5 x6 x11 sx0 h := flim_ct fun f => (mgX12_goings f).2.2.2.2.2.2.2.1 x1 x2 x3 x4 x5 x6 x11 sx0 h
theorem fqX12_goings_259 (x1 : Int32) (x2 : Int32) (x3 : Int32) (x4 : Int32) (x5 : Int32) (x6 : Int32) (x11 : Int32) (x12 : Int32) (h : ea_H) : fct (qX12_goings_259 x1 x2 x3 x4 x5 x6 x11 x12 h) fun f => (gX12_goings f).2.2.2.2.2.2.2.2.1 x1 x2 x3 x4 x5 x6 x11 x12 h := flim_ct fun f => (mgX12_goings f).2.2.2.2.2.2.2.2.1 x1 x2 x3 x4 x5 x6 x11 x12 h
theorem fqX12_goings_320 (x1 : Int32) (x4 : Int32) (h : ea_H) : fct (qX12_goings_320 x1 x4 h) fun f => (gX12_goings f).2.2.2.2.2.2.2.2.2.1 x1 x4 h := flim_ct fun f => (mgX12_goings f).2.2.2.2.2.2.2.2.2.1 x1 x4 h
theorem fqX12_goings_360 (x1 : Int32) (x4 : Int32) (sx0 : Int32) (h : ea_H) : fct (qX12_goings_360 x1 x4 sx0 h) fun f => (gX12_goings f).2.2.2.2.2.2.2.2.2.2 x1 x4 sx0 h := flim_ct fun f => (mgX12_goings f).2.2.2.2.2.2.2.2.2.2 x1 x4 sx0 h
/-- how a block opens -/
theorem uqX12_goings_0 {x1 : Int32} {h : ea_H} {P : Unit × ea_H → Prop} (H : sat (BX12_goings_0 qX12_goings_22 x1 h) P) : sat (qX12_goings_0 x1 h) P := by
  obtain ⟨x, e, hp⟩ := H
  obtain ⟨n, hn⟩ := nBX12_goings_0 fqX12_goings_22 x e
  exact ⟨x, flim_at (fun f => (mgX12_goings f).1 x1 h) (f := n + 1) (hn n (Nat.le_refl _)), hp⟩
/-- how a block opens -/
theorem uqX12_goings_22 {x1 : Int32} {x2 : Int32} {x3 : Int32} {x4 : Int32} {h : ea_H} {P : Unit × ea_H → Prop} (H : sat (BX12_goings_22 qX12_goings_60 qX12_goings_320 x1 x2 x3 x4 h) P) : sat (qX12_goings_22 x1 x2 x3 x4 h) P := by
  obtain ⟨x, e, hp⟩ := H
  obtain ⟨n, hn⟩ := nBX12_goings_22 fqX12_goings_60 fqX12_goings_320 x e
  exact ⟨x, flim_at (fun f => (mgX12_goings f).2.1 x1 x2 x3 x4 h) (f := n + 1) (hn n (Nat.le_refl _)), hp⟩
/-- how a block opens -/
theorem uqX12_goings_60 {x1 : Int32} {x2 : Int32} {x3 : Int32} {x4 : Int32} {x5 : Int32} {x6 : Int32} {h : ea_H} {P : Unit × ea_H → Prop} (H : sat (BX12_goings_60 qX12_goings_22 qX12_goings_122 x1 x2 x3 x4 x5 x6 h) P) : sat (qX12_goings_60 x1 x2 x3 x4 x5 x6 h) P := by
  obtain ⟨x, e, hp⟩ := H
  obtain ⟨n, hn⟩ := nBX12_goings_60 fqX12_goings_22 fqX12_goings_122 x e
  exact ⟨x, flim_at (fun f => (mgX12_goings f).2.2.1 x1 x2 x3 x4 x5 x6 h) (f := n + 1) (hn n (Nat.le_refl _)), hp⟩
/-- how a block opens -/
theorem uqX12_goings_122 {x1 : Int32} {x2 : Int32} {x3 : Int32} {x4 : Int32} {x5 : Int32} {x6 : Int32} {x7 : Int32} {x8 : Int32} {sx0 : Int32} {h : ea_H} {P : Unit × ea_H → Prop} (H : sat (BX12_goings_122 qX12_goings_147 x1 x2 x3 x4 x5 x6 x7 x8 sx0 h) P) : sat (qX12_goings_122 x1 x2 x3 x4 x5 x6 x7 x8 sx0 h) P := by
  obtain ⟨x, e, hp⟩ := H
  obtain ⟨n, hn⟩ := nBX12_goings_122 fqX12_goings_147 x e
  exact ⟨x, flim_at (fun f => (mgX12_goings f).2.2.2.1 x1 x2 x3 x4 x5 x6 x7 x8 sx0 h) (f := n + 1) (hn n (Nat.le_refl _)), hp⟩
/-- how a block opens -/
theorem uqX12_goings_147 {x1 : Int32} {x2 : Int32} {x3 : Int32} {x4 : Int32} {x5 : Int32} {x6 : Int32} {x7 : Int32} {x8 : Int32} {sx0 : Int32} {h : ea_H} {P : Unit × ea_H → Prop} (H : sat (BX12_goings_147 qX12_goings_60 qX12_goings_165 x1 x2 x3 x4 x5 x6 x7 x8 sx0 h) P) : sat (qX12_goings_147 x1 x2 x3 x4 x5 x6 x7 x8 sx0 h) P := by
  obtain ⟨x, e, hp⟩ := H
  obtain ⟨n, hn⟩ := nBX12_goings_147 fqX12_goings_60 fqX12_goings_165 x e
  exact ⟨x, flim_at (fun f => (mgX12_goings f).2.2.2.2.1 x1 x2 x3 x4 x5 x6 x7 x8 sx0 h) (f := n + 1) (hn n (Nat.le_refl _)), hp⟩
/-- how a block opens -/
theorem uqX12_goings_165 {x1 : Int32} {x2 : Int32} {x3 : Int32} {x4 : Int32} {x5 : Int32} {x6 : Int32} {x7 : Int32} {x8 : Int32} {x10 : Int32} {h : ea_H} {P : Unit × ea_H → Prop} (H : sat (BX12_goings_165 qX12_goings_190 x1 x2 x3 x4 x5 x6 x7 x8 x10 h) P) : sat (qX12_goings_165 x1 x2 x3 x4 x5 x6 x7 x8 x10 h) P := by
  obtain ⟨x, e, hp⟩ := H
  obtain ⟨n, hn⟩ := nBX12_goings_165 fqX12_goings_190 x e
  exact ⟨x, flim_at (fun f => (mgX12_goings f).2.2.2.2.2.1 x1 x2 x3 x4 x5 x6 x7 x8 x10 h) (f := n + 1) (hn n (Nat.le_refl _)), hp⟩
/-- how a block opens -/
theorem uqX12_goings_190 {x1 : Int32} {x2 : Int32} {x3 : Int32} {x4 : Int32} {x5 : Int32} {x6 : Int32} {x8 : Int32} {x10 : Int32} {sx0 : Int32} {h : ea_H} {P : Unit × ea_H → Prop} (H : sat (BX12_goings_190 qX12_goings_218 x1 x2 x3 x4 x5 x6 x8 x10 sx0 h) P) : sat (qX12_goings_190 x1 x2 x3 x4 x5 x6 x8 x10 sx0 h) P := by
  obtain ⟨x, e, hp⟩ := H
  obtain ⟨n, hn⟩ := nBX12_goings_190 fqX12_goings_218 x e
  exact ⟨x, flim_at (fun f => (mgX12_goings f).2.2.2.2.2.2.1 x1 x2 x3 x4 x5 x6 x8 x10 sx0 h) (f := n + 1) (hn n (Nat.le_refl _)), hp⟩
/-- how a block opens -/
theorem uqX12_goings_218 {x1 : Int32} {x2 : Int32} {x3 : Int32} {x4 : Int32} {x5 : Int32} {x6 : Int32} {x11 : Int32} {sx0 : Int32} {h : ea_H} {P : Unit × ea_H → Prop} (H : sat (BX12_goings_218 qX12_goings_60 qX12_goings_259 x1 x2 x3 x4 x5 x6 x11 sx0 h) P) : sat (qX12_goings_218 x1 x2 x3 x4 x5 x6 x11 sx0 h) P := by
  obtain ⟨x, e, hp⟩ := H
  obtain ⟨n, hn⟩ := nBX12_goings_218 fqX12_goings_60 fqX12_goings_259 x e
  exact ⟨x, flim_at (fun f => (mgX12_goings f).2.2.2.2.2.2.2.1 x1 x2 x3 x4 x5 x6 x11 sx0 h) (f := n + 1) (hn n (Nat.le_refl _)), hp⟩
/-- how a block opens -/
theorem uqX12_goings_259 {x1 : Int32} {x2 : Int32} {x3 : Int32} {x4 : Int32} {x5 : Int32} {x6 : Int32} {x11 : Int32} {x12 : Int32} {h : ea_H} {P : Unit × ea_H → Prop} (H : sat (BX12_goings_259 qX12_goings_60 x1 x2 x3 x4 x5 x6 x11 x12 h) P) : sat (qX12_goings_259 x1 x2 x3 x4 x5 x6 x11 x12 h) P := by
  obtain ⟨x, e, hp⟩ := H
  obtain ⟨n, hn⟩ := nBX12_goings_259 fqX12_goings_60 x e
  exact ⟨x, flim_at (fun f => (mgX12_goings f).2.2.2.2.2.2.2.2.1 x1 x2 x3 x4 x5 x6 x11 x12 h) (f := n + 1) (hn n (Nat.le_refl _)), hp⟩
/-- how a block opens -/
theorem uqX12_goings_320 {x1 : Int32} {x4 : Int32} {h : ea_H} {P : Unit × ea_H → Prop} (H : sat (BX12_goings_320 qX12_goings_360 x1 x4 h) P) : sat (qX12_goings_320 x1 x4 h) P := by
  obtain ⟨x, e, hp⟩ := H
  obtain ⟨n, hn⟩ := nBX12_goings_320 fqX12_goings_360 x e
  exact ⟨x, flim_at (fun f => (mgX12_goings f).2.2.2.2.2.2.2.2.2.1 x1 x4 h) (f := n + 1) (hn n (Nat.le_refl _)), hp⟩
/-- how a block opens -/
theorem uqX12_goings_360 {x1 : Int32} {x4 : Int32} {sx0 : Int32} {h : ea_H} {P : Unit × ea_H → Prop} (H : sat (BX12_goings_360 qX12_goings_320 x1 x4 sx0 h) P) : sat (qX12_goings_360 x1 x4 sx0 h) P := by
  obtain ⟨x, e, hp⟩ := H
  obtain ⟨n, hn⟩ := nBX12_goings_360 fqX12_goings_320 x e
  exact ⟨x, flim_at (fun f => (mgX12_goings f).2.2.2.2.2.2.2.2.2.2 x1 x4 sx0 h) (f := n + 1) (hn n (Nat.le_refl _)), hp⟩
theorem kgX12_goings : ∀ f : Nat, (∀ (x1 : Int32) (h : ea_H), kp (ea_core h) ((gX12_goings f).1 x1 h)) ∧ (∀ (x1 : Int32) (x2 : Int32) (x3 : Int32) (x4 : Int32) (h : ea_H), kp (ea_core h) ((gX12_goings f).2.1 x1 x2 x3 x4 h)) ∧ (∀ (x1 : Int32) (x2 : Int32) (x3 : Int32) (x4 : Int32) (x5 : Int32) (x6 : Int32) (h : ea_H), kp (ea_core h) ((gX12_goings f).2.2.1 x1 x2 x3 x4 x5 x6 h)) ∧ (∀ (x1 : Int32) (x2 : Int32) (x3 : Int32) (x4 : Int32) (x5 : Int32) (x6 : Int32) (x7 : Int32) (x8 : Int32) (sx0 : Int32) (h : ea_H), kp (ea_core h) ((gX12_goings f).2.2.2.1 x1 x2 x3 x4 x5 x6 x7 x8 sx0 h)) ∧ (∀ (x1 : Int32) (x2 : Int32) (x3 : Int32) (x4 : Int32) (x5 : Int32) (x6 : Int32) (x7 : Int32) (x8 : Int32) (sx0 : Int32) (h : ea_H), kp (ea_core h) ((gX12_goings f).2.2.2.2.1 x1 x2 x3 x4 x5 x6 x7 x8 sx0 h)) ∧ (∀ (x1 : Int32) (x2 : Int32) (x3 : Int32) (x4 : Int32) (x5 : Int32) (x6 : Int32) (x7 : Int32) (x8 : Int32) (x10 : Int32) (h : ea_H), kp (ea_core h) ((gX12_goings f).2.2.2.2.2.1 x1 x2 x3 x4 x5 x6 x7 x8 x10 h)) ∧ (∀ (x1 : Int32) (x2 : Int32) (x3 : Int32) (x4 : Int32) (x5 : Int32) (x6 : Int32) (x8 : Int32) (x10 : Int32) (sx0 : Int32) (h : ea_H), kp (ea_core h) ((gX12_goings f).2.2.2.2.2.2.1 x1 x2 x3 x4 x5 x6 x8 x10 sx0 h)) ∧ (∀ (x1 : Int32) (x2 : Int32) (x3 : Int32) (x4 : Int32) (x5 : Int32) (x6 : Int32) (x11 : Int32) (sx0 : Int32) (h : ea_H), kp (ea_core h) ((gX12_goings f).2.2.2.2.2.2.2.1 x1 x2 x3 x4 x5 x6 x11 sx0 h)) ∧ (∀ (x1 : Int32) (x2 : Int32) (x3 : Int32) (x4 : Int32) (x5 : Int32) (x6 : Int32) (x11 : Int32) (x12 : Int32) (h : ea_H), kp (ea_core h) ((gX12_goings f).2.2.2.2.2.2.2.2.1 x1 x2 x3 x4 x5 x6 x11 x12 h)) ∧ (∀ (x1 : Int32) (x4 : Int32) (h : ea_H), kp (ea_core h) ((gX12_goings f).2.2.2.2.2.2.2.2.2.1 x1 x4 h)) ∧ (∀ (x1 : Int32) (x4 : Int32) (sx0 : Int32) (h : ea_H), kp (ea_core h) ((gX12_goings f).2.2.2.2.2.2.2.2.2.2 x1 x4 sx0 h)) := by
  intro f
  induction f with
  | zero => exact ⟨fun _ _ => kp_none _, fun _ _ _ _ _ => kp_none _, fun _ _ _ _ _ _ _ => kp_none _, fun _ _ _ _ _ _ _ _ _ _ => kp_none _, fun _ _ _ _ _ _ _ _ _ _ => kp_none _, fun _ _ _ _ _ _ _ _ _ _ => kp_none _, fun _ _ _ _ _ _ _ _ _ _ => kp_none _, fun _ _ _ _ _ _ _ _ _ => kp_none _, fun _ _ _ _ _ _ _ _ _ => kp_none _, fun _ _ _ => kp_none _, fun _ _ _ _ => kp_none _⟩
  | succ f ih => exact ⟨fun _ _ => kBX12_goings_0 ih.2.1, fun _ _ _ _ _ => kBX12_goings_22 ih.2.2.1 ih.2.2.2.2.2.2.2.2.2.1, fun _ _ _ _ _ _ _ => kBX12_goings_60 ih.2.1 ih.2.2.2.1, fun _ _ _ _ _ _ _ _ _ _ => kBX12_goings_122 ih.2.2.2.2.1, fun _ _ _ _ _ _ _ _ _ _ => kBX12_goings_147 ih.2.2.1 ih.2.2.2.2.2.1, fun _ _ _ _ _ _ _ _ _ _ => kBX12_goings_165 ih.2.2.2.2.2.2.1, fun _ _ _ _ _ _ _ _ _ _ => kBX12_goings_190 ih.2.2.2.2.2.2.2.1, fun _ _ _ _ _ _ _ _ _ => kBX12_goings_218 ih.2.2.1 ih.2.2.2.2.2.2.2.2.1, fun _ _ _ _ _ _ _ _ _ => kBX12_goings_259 ih.2.2.1, fun _ _ _ => kBX12_goings_320 ih.2.2.2.2.2.2.2.2.2.2, fun _ _ _ _ => kBX12_goings_360 ih.2.2.2.2.2.2.2.2.2.1⟩
theorem tgX12_goings {d : Nat} {h0 : ea_H} (hd : 2 ≤ d) : ∀ f : Nat, (∀ (x1 : Int32) (h : ea_H) (r : Unit) (h' : ea_H), (gX12_goings f).1 x1 h = some (r, h') → ShM h → ea_W mX12_goings d h0 none h' 0 [(0, vR (some 326)), (1, vI x1)] [] h) ∧ (∀ (x1 : Int32) (x2 : Int32) (x3 : Int32) (x4 : Int32) (h : ea_H) (r : Unit) (h' : ea_H), (gX12_goings f).2.1 x1 x2 x3 x4 h = some (r, h') → ShM h → ea_W mX12_goings d h0 none h' 22 [(0, vR (some 326)), (1, vI x1), (2, vI x2), (3, vI x3), (4, vI x4)] [] h) ∧ (∀ (x1 : Int32) (x2 : Int32) (x3 : Int32) (x4 : Int32) (x5 : Int32) (x6 : Int32) (h : ea_H) (r : Unit) (h' : ea_H), (gX12_goings f).2.2.1 x1 x2 x3 x4 x5 x6 h = some (r, h') → ShM h → ea_W mX12_goings d h0 none h' 60 [(0, vR (some 326)), (1, vI x1), (2, vI x2), (3, vI x3), (4, vI x4), (5, vI x5), (6, vI x6)] [] h) ∧ (∀ (x1 : Int32) (x2 : Int32) (x3 : Int32) (x4 : Int32) (x5 : Int32) (x6 : Int32) (x7 : Int32) (x8 : Int32) (sx0 : Int32) (h : ea_H) (r : Unit) (h' : ea_H), (gX12_goings f).2.2.2.1 x1 x2 x3 x4 x5 x6 x7 x8 sx0 h = some (r, h') → ShM h → ea_W mX12_goings d h0 none h' 122 [(0, vR (some 326)), (1, vI x1), (2, vI x2), (3, vI x3), (4, vI x4), (5, vI x5), (6, vI x6), (7, vI x7), (8, vI x8)] [vI sx0] h) ∧ (∀ (x1 : Int32) (x2 : Int32) (x3 : Int32) (x4 : Int32) (x5 : Int32) (x6 : Int32) (x7 : Int32) (x8 : Int32) (sx0 : Int32) (h : ea_H) (r : Unit) (h' : ea_H), (gX12_goings f).2.2.2.2.1 x1 x2 x3 x4 x5 x6 x7 x8 sx0 h = some (r, h') → ShM h → ea_W mX12_goings d h0 none h' 147 [(0, vR (some 326)), (1, vI x1), (2, vI x2), (3, vI x3), (4, vI x4), (5, vI x5), (6, vI x6), (7, vI x7), (8, vI x8)] [vI sx0] h) ∧ (∀ (x1 : Int32) (x2 : Int32) (x3 : Int32) (x4 : Int32) (x5 : Int32) (x6 : Int32) (x7 : Int32) (x8 : Int32) (x10 : Int32) (h : ea_H) (r : Unit) (h' : ea_H), (gX12_goings f).2.2.2.2.2.1 x1 x2 x3 x4 x5 x6 x7 x8 x10 h = some (r, h') → ShM h → ea_W mX12_goings d h0 none h' 165 [(0, vR (some 326)), (1, vI x1), (2, vI x2), (3, vI x3), (4, vI x4), (5, vI x5), (6, vI x6), (7, vI x7), (8, vI x8), (10, vI x10)] [] h) ∧ (∀ (x1 : Int32) (x2 : Int32) (x3 : Int32) (x4 : Int32) (x5 : Int32) (x6 : Int32) (x8 : Int32) (x10 : Int32) (sx0 : Int32) (h : ea_H) (r : Unit) (h' : ea_H), (gX12_goings f).2.2.2.2.2.2.1 x1 x2 x3 x4 x5 x6 x8 x10 sx0 h = some (r, h') → ShM h → ea_W mX12_goings d h0 none h' 190 [(0, vR (some 326)), (1, vI x1), (2, vI x2), (3, vI x3), (4, vI x4), (5, vI x5), (6, vI x6), (8, vI x8), (10, vI x10)] [vI sx0] h) ∧ (∀ (x1 : Int32) (x2 : Int32) (x3 : Int32) (x4 : Int32) (x5 : Int32) (x6 : Int32) (x11 : Int32) (sx0 : Int32) (h : ea_H) (r : Unit) (h' : ea_H), (gX12_goings f).2.2.2.2.2.2.2.1 x1 x2 x3 x4 x5 x6 x11 sx0 h = some (r, h') → ShM h → ea_W mX12_goings d h0 none h' 218 [(0, vR (some 326)), (1, vI x1), (2, vI x2), (3, vI x3), (4, vI x4), (5, vI x5), (6, vI x6), (11, vI x11)] [vI sx0] h) ∧ (∀ (x1 : Int32) (x2 : Int32) (x3 : Int32) (x4 : Int32) (x5 : Int32) (x6 : Int32) (x11 : Int32) (x12 : Int32) (h : ea_H) (r : Unit) (h' : ea_H), (gX12_goings f).2.2.2.2.2.2.2.2.1 x1 x2 x3 x4 x5 x6 x11 x12 h = some (r, h') → ShM h → ea_W mX12_goings d h0 none h' 259 [(0, vR (some 326)), (1, vI x1), (2, vI x2), (3, vI x3), (4, vI x4), (5, vI x5), (6, vI x6), (11, vI x11), (12, vI x12)] [] h) ∧ (∀ (x1 : Int32) (x4 : Int32) (h : ea_H) (r : Unit) (h' : ea_H), (gX12_goings f).2.2.2.2.2.2.2.2.2.1 x1 x4 h = some (r, h') → ShM h → ea_W mX12_goings d h0 none h' 320 [(0, vR (some 326)), (1, vI x1), (4, vI x4)] [] h) ∧ (∀ (x1 : Int32) (x4 : Int32) (sx0 : Int32) (h : ea_H) (r : Unit) (h' : ea_H), (gX12_goings f).2.2.2.2.2.2.2.2.2.2 x1 x4 sx0 h = some (r, h') → ShM h → ea_W mX12_goings d h0 none h' 360 [(0, vR (some 326)), (1, vI x1), (4, vI x4)] [vI sx0] h) := by
  intro f
  induction f with
  | zero => exact ⟨fun _ _ _ _ E => no_some E, fun _ _ _ _ _ _ _ E => no_some E, fun _ _ _ _ _ _ _ _ _ E => no_some E, fun _ _ _ _ _ _ _ _ _ _ _ _ E => no_some E, fun _ _ _ _ _ _ _ _ _ _ _ _ E => no_some E, fun _ _ _ _ _ _ _ _ _ _ _ _ E => no_some E, fun _ _ _ _ _ _ _ _ _ _ _ _ E => no_some E, fun _ _ _ _ _ _ _ _ _ _ _ E => no_some E, fun _ _ _ _ _ _ _ _ _ _ _ E => no_some E, fun _ _ _ _ _ E => no_some E, fun _ _ _ _ _ _ E => no_some E⟩
  | succ f ih => exact ⟨fun _ _ _ _ E hs => tBX12_goings_0 hd ih.2.1 E hs, fun _ _ _ _ _ _ _ E hs => tBX12_goings_22 hd ih.2.2.1 ih.2.2.2.2.2.2.2.2.2.1 E hs, fun _ _ _ _ _ _ _ _ _ E hs => tBX12_goings_60 hd ih.2.1 ih.2.2.2.1 E hs, fun _ _ _ _ _ _ _ _ _ _ _ _ E hs => tBX12_goings_122 hd ih.2.2.2.2.1 E hs, fun _ _ _ _ _ _ _ _ _ _ _ _ E hs => tBX12_goings_147 hd ih.2.2.1 ih.2.2.2.2.2.1 E hs, fun _ _ _ _ _ _ _ _ _ _ _ _ E hs => tBX12_goings_165 hd ih.2.2.2.2.2.2.1 E hs, fun _ _ _ _ _ _ _ _ _ _ _ _ E hs => tBX12_goings_190 hd ih.2.2.2.2.2.2.2.1 E hs, fun _ _ _ _ _ _ _ _ _ _ _ E hs => tBX12_goings_218 hd ih.2.2.1 ih.2.2.2.2.2.2.2.2.1 E hs, fun _ _ _ _ _ _ _ _ _ _ _ E hs => tBX12_goings_259 hd ih.2.2.1 E hs, fun _ _ _ _ _ E hs => tBX12_goings_320 hd ih.2.2.2.2.2.2.2.2.2.2 E hs, fun _ _ _ _ _ _ E hs => tBX12_goings_360 hd ih.2.2.2.2.2.2.2.2.2.1 E hs⟩
noncomputable def qX12_goings (x1 : Int32) (h : ea_H) : Option (Unit × ea_H) := qX12_goings_0 x1 h
theorem sX12_goings {d : Nat} {x1 : Int32} {h : ea_H} {r : Unit} {h' : ea_H} (hd : 2 ≤ d) (hs : ShM h) (K : qX12_goings x1 h = some (r, h')) : ea_Met mX12_goings d [vR (some 326), vI x1] h none h' := by
  unfold qX12_goings at K
  obtain ⟨n, hn⟩ := fqX12_goings_0 x1 h _ K
  have W := (tgX12_goings (d := d) (h0 := h) hd n).1 x1 h _ _ (hn n (Nat.le_refl _)) hs
  exact ea_enter rfl (Nat.le_of_ble_eq_true rfl) W
theorem kpX12_goings (x1 : Int32) (h : ea_H) : kp (ea_core h) (qX12_goings x1 h) := fun x e => by
  obtain ⟨n, hn⟩ := fqX12_goings_0 x1 h x e
  exact (kgX12_goings n).1 x1 h x (hn n (Nat.le_refl _))
noncomputable def BX12_run__0 (J67 : Int32 → Int32 → Int32 → Int32 → ea_H → Option (Int32 × ea_H)) (x1 : Int32) (x2 : Int32) (x3 : Int32) (h : ea_H) : Option (Int32 × ea_H) :=
  (Option.bind (qX12_isTrain (x1 : Int32) h) fun w1 => (if w1.1 = (0 : Int32) then (some (((-1) : Int32), w1.2)) else (Option.bind (qX12_isDay (x2 : Int32) w1.2) fun w2 => (if w2.1 = (0 : Int32) then (some (((-1) : Int32), w2.2)) else (Option.bind (qX12_run (x1 : Int32) (x2 : Int32) w2.2) fun w3 => (if Int32.toInt x3 = 0 then (J67 (x3 : Int32) (w3.1 : Int32) (0 : Int32) (0 : Int32) w3.2) else (if Int32.toInt x3 = 1 then (J67 (x3 : Int32) (w3.1 : Int32) (0 : Int32) (0 : Int32) w3.2) else (if Int32.toInt x3 = 2 then (Option.bind (qX12_gone (w3.1 : Int32) w3.2) fun w6 => (some (w6.1, w6.2))) else (if Int32.toInt x3 = 3 then (gd (vp_in w3.1 70) (some ((ea_i w3.2 386 (Int32.toNatClampNeg w3.1)), w3.2))) else (if Int32.toInt x3 = 4 then (gd (vp_in w3.1 70) (some ((ea_i w3.2 332 (Int32.toNatClampNeg w3.1)), w3.2))) else (some (((-1) : Int32), w3.2))))))))))))
theorem tBX12_run__0 {d : Nat} {h0 : ea_H} (hd : 3 ≤ d) {J67 : Int32 → Int32 → Int32 → Int32 → ea_H → Option (Int32 × ea_H)}  (kJ67 : ∀ (x3 : Int32) (x4 : Int32) (x5 : Int32) (x6 : Int32) (h : ea_H) (r : Int32) (h' : ea_H), J67 x3 x4 x5 x6 h = some (r, h') → ShM h → ea_W mX12_run_ d h0 (some (vI r)) h' 67 [(0, vR (some 326)), (3, vI x3), (4, vI x4), (5, vI x5), (6, vI x6)] [] h) {x1 : Int32} {x2 : Int32} {x3 : Int32} {h : ea_H} {r : Int32} {h' : ea_H} (E : BX12_run__0 J67 x1 x2 x3 h = some (r, h')) (hs : ShM h) : ea_W mX12_run_ d h0 (some (vI r)) h' 0 [(0, vR (some 326)), (1, vI x1), (2, vI x2), (3, vI x3)] [] h := by
  unfold BX12_run__0 at E
  obtain ⟨w1, Ew1, E⟩ := bd_some E
  have hsw1 : ShM w1.2 := ShM_core ((kpX12_isTrain _ _) _ Ew1) hs
  refine ea_aload_n (pc := 0) dX12_run__0 rfl 0 rfl ?_
  refine ea_iload_n (pc := 1) dX12_run__1 rfl 1 rfl ?_
  refine ea_callV (pc := 2) (d' := d - 1) (As := [vI x1]) (st := []) dX12_run__2 kX12_isTrain (sX12_isTrain (d := d - 1) (by omega) hs Ew1) (by omega) rfl (Nat.le_of_ble_eq_true rfl) ew_1793 ew_1795 ew_57 (ci := 12) rfl (by decide) (cShM_326 hs).1 (cShM_326 hs).2.1 ?_
  refine ea_if_eq (pc := 5) (tgt := 15) dX12_run__5 rfl (fun c8 => ?_) (fun c8 => ?_)
  · have E := (if_pos c8).symm.trans E
    refine ea_iconst (pc := 15) dX12_run__15 (v := (-1)) rfl ?_
    exact ea_iretO (pc := 16) dX12_run__16 rfl rfl E
  · have E := (if_neg c8).symm.trans E
    obtain ⟨w2, Ew2, E⟩ := bd_some E
    have hsw2 : ShM w2.2 := ShM_core ((kpX12_isDay _ _) _ Ew2) hsw1
    refine ea_iload_n (pc := 8) dX12_run__8 rfl 2 rfl ?_
    refine ea_callS (pc := 9) (d' := d - 1) (As := [vI x2]) (st := []) dX12_run__9 kX12_isDay (sX12_isDay (d := d - 1) (by omega) Ew2) (by omega) rfl (Nat.le_of_ble_eq_true rfl) ew_1809 ew_1810 ?_
    refine ea_if_ne (pc := 12) (tgt := 17) dX12_run__12 rfl (fun c7 => ?_) (fun c7 => ?_)
    · have E := (if_neg c7).symm.trans E
      obtain ⟨w3, Ew3, E⟩ := bd_some E
      have hsw3 : ShM w3.2 := ShM_core ((kpX12_run _ _ _) _ Ew3) hsw2
      refine ea_iload_n (pc := 17) dX12_run__17 rfl 1 rfl ?_
      refine ea_iload_n (pc := 18) dX12_run__18 rfl 2 rfl ?_
      refine ea_callS (pc := 19) (d' := d - 1) (As := [vI x1, vI x2]) (st := []) dX12_run__19 kX12_run (sX12_run (d := d - 1) (by omega) Ew3) (by omega) rfl (Nat.le_of_ble_eq_true rfl) ew_1812 ew_1813 ?_
      refine ea_istore (pc := 22) (lv' := [(0, vR (some 326)), (3, vI x3), (4, vI w3.1)]) dX12_run__22 (Nat.le_of_ble_eq_true rfl) [1, 4, 0] rfl ?_
      refine ea_iconst (pc := 24) dX12_run__24 (v := 0) rfl ?_
      refine ea_istore (pc := 25) (lv' := [(0, vR (some 326)), (3, vI x3), (4, vI w3.1), (5, vI 0)]) dX12_run__25 (Nat.le_of_ble_eq_true rfl) [1, 2, 3, 0] rfl ?_
      refine ea_iload_n (pc := 27) dX12_run__27 rfl 1 rfl ?_
      by_cases q28_0 : Int32.toInt x3 = 0
      · have E := (if_pos q28_0).symm.trans E
        refine ea_tswIn (pc := 28) (tgt := 64) dX12_run__28 (by rw [q28_0]; decide) (by rw [q28_0]; decide) (by rw [q28_0]; rfl) rfl ?_
        refine ea_iconst (pc := 64) dX12_run__64 (v := 0) rfl ?_
        refine ea_istore (pc := 65) (lv' := [(0, vR (some 326)), (3, vI x3), (4, vI w3.1), (5, vI 0), (6, vI 0)]) dX12_run__65 (Nat.le_of_ble_eq_true rfl) [1, 2, 3, 4, 0] rfl ?_
        exact (kJ67 (x3 : Int32) (w3.1 : Int32) (0 : Int32) (0 : Int32) w3.2 _ _ E hsw3)
      have E := (if_neg q28_0).symm.trans E
      by_cases q28_1 : Int32.toInt x3 = 1
      · have E := (if_pos q28_1).symm.trans E
        refine ea_tswIn (pc := 28) (tgt := 64) dX12_run__28 (by rw [q28_1]; decide) (by rw [q28_1]; decide) (by rw [q28_1]; rfl) rfl ?_
        refine ea_iconst (pc := 64) dX12_run__64 (v := 0) rfl ?_
        refine ea_istore (pc := 65) (lv' := [(0, vR (some 326)), (3, vI x3), (4, vI w3.1), (5, vI 0), (6, vI 0)]) dX12_run__65 (Nat.le_of_ble_eq_true rfl) [1, 2, 3, 4, 0] rfl ?_
        exact (kJ67 (x3 : Int32) (w3.1 : Int32) (0 : Int32) (0 : Int32) w3.2 _ _ E hsw3)
      have E := (if_neg q28_1).symm.trans E
      by_cases q28_2 : Int32.toInt x3 = 2
      · have E := (if_pos q28_2).symm.trans E
        obtain ⟨w6, Ew6, E⟩ := bd_some E
        have hsw6 : ShM w6.2 := ShM_core ((kpX12_gone _ _) _ Ew6) hsw3
        refine ea_tswIn (pc := 28) (tgt := 126) dX12_run__28 (by rw [q28_2]; decide) (by rw [q28_2]; decide) (by rw [q28_2]; rfl) rfl ?_
        refine ea_aload_n (pc := 126) dX12_run__126 rfl 0 rfl ?_
        refine ea_iload (pc := 127) dX12_run__127 2 rfl ?_
        refine ea_callV (pc := 129) (d' := d - 1) (As := [vI w3.1]) (st := []) dX12_run__129 kX12_gone (sX12_gone (d := d - 1) (by omega) hsw3 Ew6) (by omega) rfl (Nat.le_of_ble_eq_true rfl) ew_2151 ew_2153 ew_106 (ci := 12) rfl (by decide) (cShM_326 hsw3).1 (cShM_326 hsw3).2.1 ?_
        exact ea_iretO (pc := 132) dX12_run__132 rfl rfl E
      have E := (if_neg q28_2).symm.trans E
      by_cases q28_3 : Int32.toInt x3 = 3
      · have E := (if_pos q28_3).symm.trans E
        obtain ⟨z5, E⟩ := gd_some E
        refine ea_tswIn (pc := 28) (tgt := 133) dX12_run__28 (by rw [q28_3]; decide) (by rw [q28_3]; decide) (by rw [q28_3]; rfl) rfl ?_
        refine ea_aload_n (pc := 133) dX12_run__133 rfl 0 rfl ?_
        refine ea_getR (pc := 134) dX12_run__134 ec_12 (k := 86) (Nat.le_of_ble_eq_true rfl) rfl (Or.inl ew_1488) (cShM_326 hsw3).1 (cShM_326 hsw3).2.1 (rShM_326_86 hsw3) ?_
        refine ea_iload (pc := 137) dX12_run__137 2 rfl ?_
        refine ea_iald (pc := 139) dX12_run__139 (cShM_386 hsw3).1 (cShM_386 hsw3).2.1 (ea_vpl (cShM_386 hsw3).2.2 z5) ?_
        exact ea_iretO (pc := 140) dX12_run__140 rfl rfl E
      have E := (if_neg q28_3).symm.trans E
      by_cases q28_4 : Int32.toInt x3 = 4
      · have E := (if_pos q28_4).symm.trans E
        obtain ⟨z4, E⟩ := gd_some E
        refine ea_tswIn (pc := 28) (tgt := 141) dX12_run__28 (by rw [q28_4]; decide) (by rw [q28_4]; decide) (by rw [q28_4]; rfl) rfl ?_
        refine ea_aload_n (pc := 141) dX12_run__141 rfl 0 rfl ?_
        refine ea_getR (pc := 142) dX12_run__142 ec_12 (k := 8) (Nat.le_of_ble_eq_true rfl) rfl (Or.inl ew_1410) (cShM_326 hsw3).1 (cShM_326 hsw3).2.1 (rShM_326_8 hsw3) ?_
        refine ea_iload (pc := 145) dX12_run__145 2 rfl ?_
        refine ea_iald (pc := 147) dX12_run__147 (cShM_332 hsw3).1 (cShM_332 hsw3).2.1 (ea_vpl (cShM_332 hsw3).2.2 z4) ?_
        exact ea_iretO (pc := 148) dX12_run__148 rfl rfl E
      have E := (if_neg q28_4).symm.trans E
      refine ea_tswOut (pc := 28) (tgt := 149) dX12_run__28 (ea_sw_0_4 q28_0 q28_1 q28_2 q28_3 q28_4) rfl ?_
      refine ea_iconst (pc := 149) dX12_run__149 (v := (-1)) rfl ?_
      exact ea_iretO (pc := 150) dX12_run__150 rfl rfl E
    · have E := (if_pos c7).symm.trans E
      refine ea_iconst (pc := 15) dX12_run__15 (v := (-1)) rfl ?_
      exact ea_iretO (pc := 16) dX12_run__16 rfl rfl E
theorem kBX12_run__0 {J67 : Int32 → Int32 → Int32 → Int32 → ea_H → Option (Int32 × ea_H)}  (cJ67 : ∀ (x3 : Int32) (x4 : Int32) (x5 : Int32) (x6 : Int32) (h : ea_H), kp (ea_core h) (J67 x3 x4 x5 x6 h)) {x1 : Int32} {x2 : Int32} {x3 : Int32} {h : ea_H} : kp (ea_core h) (BX12_run__0 J67 x1 x2 x3 h) :=
  (kp_bind (kp_tw (kpX12_isTrain _ _) rfl) fun w1 hcw1 => (kp_ite (kp_ret hcw1) (kp_bind (kp_tw (kpX12_isDay _ _) hcw1) fun w2 hcw2 => (kp_ite (kp_ret hcw2) (kp_bind (kp_tw (kpX12_run _ _ _) hcw2) fun w3 hcw3 => (kp_ite (kp_tw (cJ67 _ _ _ _ _) hcw3) (kp_ite (kp_tw (cJ67 _ _ _ _ _) hcw3) (kp_ite (kp_bind (kp_tw (kpX12_gone _ _) hcw3) fun w6 hcw6 => (kp_ret hcw6)) (kp_ite (kp_gd (kp_ret hcw3)) (kp_ite (kp_gd (kp_ret hcw3)) (kp_ret hcw3)))))))))))
theorem lBX12_run__0 {J67 : Int32 → Int32 → Int32 → Int32 → ea_H → Option (Int32 × ea_H)} {J67_ : Int32 → Int32 → Int32 → Int32 → ea_H → Option (Int32 × ea_H)}  (mJ67 : ∀ (x3 : Int32) (x4 : Int32) (x5 : Int32) (x6 : Int32) (h : ea_H), fle (J67 x3 x4 x5 x6 h) (J67_ x3 x4 x5 x6 h)) {x1 : Int32} {x2 : Int32} {x3 : Int32} {h : ea_H} : fle (BX12_run__0 J67 x1 x2 x3 h) (BX12_run__0 J67_ x1 x2 x3 h) :=
  (fle_bind (fle_rfl _) fun _ => (fle_ite (fle_rfl _) (fle_bind (fle_rfl _) fun _ => (fle_ite (fle_rfl _) (fle_bind (fle_rfl _) fun _ => (fle_ite (mJ67 _ _ _ _ _) (fle_ite (mJ67 _ _ _ _ _) (fle_rfl _))))))))
theorem nBX12_run__0 {J67 : Int32 → Int32 → Int32 → Int32 → ea_H → Option (Int32 × ea_H)} {J67_ : Nat → (Int32 → Int32 → Int32 → Int32 → ea_H → Option (Int32 × ea_H))}  (mJ67 : ∀ (x3 : Int32) (x4 : Int32) (x5 : Int32) (x6 : Int32) (h : ea_H), fct (J67 x3 x4 x5 x6 h) (fun f => J67_ f x3 x4 x5 x6 h)) {x1 : Int32} {x2 : Int32} {x3 : Int32} {h : ea_H} : fct (BX12_run__0 J67 x1 x2 x3 h) (fun f => BX12_run__0 (J67_ f) x1 x2 x3 h) :=
  (fct_bind (fct_rfl _) fun _ => (fct_ite (fct_rfl _) (fct_bind (fct_rfl _) fun _ => (fct_ite (fct_rfl _) (fct_bind (fct_rfl _) fun _ => (fct_ite (mJ67 _ _ _ _ _) (fct_ite (mJ67 _ _ _ _ _) (fct_rfl _))))))))
noncomputable def BX12_run__67 (J67 : Int32 → Int32 → Int32 → Int32 → ea_H → Option (Int32 × ea_H)) (J106 : Int32 → Int32 → Int32 → Int32 → Int32 → Int32 → ea_H → Option (Int32 × ea_H)) (x3 : Int32) (x4 : Int32) (x5 : Int32) (x6 : Int32) (h : ea_H) : Option (Int32 × ea_H) :=
  (if (ea_i h 326 63) ≤ x6 then (some (x5, h)) else (Option.bind (qX12_isAboard (x6 : Int32) (x4 : Int32) h) fun w9 => (if w9.1 = (0 : Int32) then (ea_let (x5 + (0 : Int32)) fun (v10 : Int32) => (J67 (x3 : Int32) (x4 : Int32) (v10 : Int32) ((x6 + (1 : Int32)) : Int32) w9.2)) else (gd (vp_in x6 120) (if x3 = (1 : Int32) then (J106 (x3 : Int32) (x4 : Int32) (x6 : Int32) (1 : Int32) ((ea_i w9.2 387 (Int32.toNatClampNeg x6)) : Int32) (x5 : Int32) w9.2) else (J106 (x3 : Int32) (x4 : Int32) (x6 : Int32) (0 : Int32) ((ea_i w9.2 387 (Int32.toNatClampNeg x6)) : Int32) (x5 : Int32) w9.2))))))
theorem tBX12_run__67 {d : Nat} {h0 : ea_H} (hd : 3 ≤ d) {J67 : Int32 → Int32 → Int32 → Int32 → ea_H → Option (Int32 × ea_H)} {J106 : Int32 → Int32 → Int32 → Int32 → Int32 → Int32 → ea_H → Option (Int32 × ea_H)}  (kJ67 : ∀ (x3 : Int32) (x4 : Int32) (x5 : Int32) (x6 : Int32) (h : ea_H) (r : Int32) (h' : ea_H), J67 x3 x4 x5 x6 h = some (r, h') → ShM h → ea_W mX12_run_ d h0 (some (vI r)) h' 67 [(0, vR (some 326)), (3, vI x3), (4, vI x4), (5, vI x5), (6, vI x6)] [] h) (kJ106 : ∀ (x3 : Int32) (x4 : Int32) (x6 : Int32) (sx0 : Int32) (sx1 : Int32) (sx2 : Int32) (h : ea_H) (r : Int32) (h' : ea_H), J106 x3 x4 x6 sx0 sx1 sx2 h = some (r, h') → ShM h → ea_W mX12_run_ d h0 (some (vI r)) h' 106 [(0, vR (some 326)), (3, vI x3), (4, vI x4), (6, vI x6)] [vI sx0, vI sx1, vI sx2] h) {x3 : Int32} {x4 : Int32} {x5 : Int32} {x6 : Int32} {h : ea_H} {r : Int32} {h' : ea_H} (E : BX12_run__67 J67 J106 x3 x4 x5 x6 h = some (r, h')) (hs : ShM h) : ea_W mX12_run_ d h0 (some (vI r)) h' 67 [(0, vR (some 326)), (3, vI x3), (4, vI x4), (5, vI x5), (6, vI x6)] [] h := by
  unfold BX12_run__67 at E
  refine ea_iload (pc := 67) dX12_run__67 4 rfl ?_
  refine ea_aload_n (pc := 69) dX12_run__69 rfl 0 rfl ?_
  refine ea_getI (pc := 70) dX12_run__70 ec_12 (k := 63) (Nat.le_of_ble_eq_true rfl) rfl (Or.inl ew_1465) (cShM_326 hs).1 (cShM_326 hs).2.1 ?_
  refine ea_icmp_ge (pc := 73) (tgt := 123) dX12_run__73 rfl (fun c14 => ?_) (fun c14 => ?_)
  · have E := (if_pos c14).symm.trans E
    refine ea_iload (pc := 123) dX12_run__123 3 rfl ?_
    exact ea_iretO (pc := 125) dX12_run__125 rfl rfl E
  · have E := (if_neg c14).symm.trans E
    obtain ⟨w9, Ew9, E⟩ := bd_some E
    have hsw9 : ShM w9.2 := ShM_core ((kpX12_isAboard _ _ _) _ Ew9) hs
    refine ea_iload (pc := 76) dX12_run__76 3 rfl ?_
    refine ea_aload_n (pc := 78) dX12_run__78 rfl 0 rfl ?_
    refine ea_iload (pc := 79) dX12_run__79 4 rfl ?_
    refine ea_iload (pc := 81) dX12_run__81 2 rfl ?_
    refine ea_callV (pc := 83) (d' := d - 1) (As := [vI x6, vI x4]) (st := [vI x5]) dX12_run__83 kX12_isAboard (sX12_isAboard (d := d - 1) (by omega) hs Ew9) (by omega) rfl (Nat.le_of_ble_eq_true rfl) ew_2124 ew_2126 ew_102 (ci := 12) rfl (by decide) (cShM_326 hs).1 (cShM_326 hs).2.1 ?_
    refine ea_if_eq (pc := 86) (tgt := 113) dX12_run__86 rfl (fun c13 => ?_) (fun c13 => ?_)
    · have E := (if_pos c13).symm.trans E
      obtain ⟨v10, ev10, E⟩ := let_some E
      refine ea_iconst (pc := 113) dX12_run__113 (v := 0) rfl ?_
      refine ea_iadd (pc := 114) dX12_run__114 ?_
      refine ea_istore (pc := 115) (lv' := [(0, vR (some 326)), (3, vI x3), (4, vI x4), (5, vI v10), (6, vI x6)]) dX12_run__115 (Nat.le_of_ble_eq_true rfl) [1, 2, 3, 0, 4] (by rw [ev10]; rfl) ?_
      refine ea_iinc (pc := 117) (v := 1) (lv' := [(0, vR (some 326)), (3, vI x3), (4, vI x4), (5, vI v10), (6, vI (x6 + (1 : Int32)))]) dX12_run__117 4 rfl rfl (Nat.le_of_ble_eq_true rfl) [1, 2, 3, 4, 0] rfl ?_
      refine ea_goto (pc := 120) (tgt := 67) dX12_run__120 rfl ?_
      exact (kJ67 (x3 : Int32) (x4 : Int32) (v10 : Int32) ((x6 + (1 : Int32)) : Int32) w9.2 _ _ E hsw9)
    · have E := (if_neg c13).symm.trans E
      obtain ⟨z11, E⟩ := gd_some E
      refine ea_aload_n (pc := 89) dX12_run__89 rfl 0 rfl ?_
      refine ea_getR (pc := 90) dX12_run__90 ec_12 (k := 87) (Nat.le_of_ble_eq_true rfl) rfl (Or.inl ew_1489) (cShM_326 hsw9).1 (cShM_326 hsw9).2.1 (rShM_326_87 hsw9) ?_
      refine ea_iload (pc := 93) dX12_run__93 4 rfl ?_
      refine ea_zald (pc := 95) dX12_run__95 (cShM_387 hsw9).1 (cShM_387 hsw9).2.1 (ea_vpl (cShM_387 hsw9).2.2 z11) ?_
      refine ea_iload_n (pc := 96) dX12_run__96 rfl 1 rfl ?_
      refine ea_iconst (pc := 97) dX12_run__97 (v := 1) rfl ?_
      refine ea_icmp_ne (pc := 98) (tgt := 105) dX12_run__98 rfl (fun c12 => ?_) (fun c12 => ?_)
      · have E := (if_neg c12).symm.trans E
        refine ea_iconst (pc := 105) dX12_run__105 (v := 0) rfl ?_
        exact ea_fewer [0, 1, 2, 4] rfl (kJ106 (x3 : Int32) (x4 : Int32) (x6 : Int32) (0 : Int32) ((ea_i w9.2 387 (Int32.toNatClampNeg x6)) : Int32) (x5 : Int32) w9.2 _ _ E hsw9)
      · have E := (if_pos c12).symm.trans E
        refine ea_iconst (pc := 101) dX12_run__101 (v := 1) rfl ?_
        refine ea_goto (pc := 102) (tgt := 106) dX12_run__102 rfl ?_
        exact ea_fewer [0, 1, 2, 4] rfl (kJ106 (x3 : Int32) (x4 : Int32) (x6 : Int32) (1 : Int32) ((ea_i w9.2 387 (Int32.toNatClampNeg x6)) : Int32) (x5 : Int32) w9.2 _ _ E hsw9)
theorem kBX12_run__67 {J67 : Int32 → Int32 → Int32 → Int32 → ea_H → Option (Int32 × ea_H)} {J106 : Int32 → Int32 → Int32 → Int32 → Int32 → Int32 → ea_H → Option (Int32 × ea_H)}  (cJ67 : ∀ (x3 : Int32) (x4 : Int32) (x5 : Int32) (x6 : Int32) (h : ea_H), kp (ea_core h) (J67 x3 x4 x5 x6 h)) (cJ106 : ∀ (x3 : Int32) (x4 : Int32) (x6 : Int32) (sx0 : Int32) (sx1 : Int32) (sx2 : Int32) (h : ea_H), kp (ea_core h) (J106 x3 x4 x6 sx0 sx1 sx2 h)) {x3 : Int32} {x4 : Int32} {x5 : Int32} {x6 : Int32} {h : ea_H} : kp (ea_core h) (BX12_run__67 J67 J106 x3 x4 x5 x6 h) :=
  (kp_ite (kp_ret rfl) (kp_bind (kp_tw (kpX12_isAboard _ _ _) rfl) fun w9 hcw9 => (kp_ite (kp_let (kp_tw (cJ67 _ _ _ _ _) hcw9)) (kp_gd (kp_ite (kp_tw (cJ106 _ _ _ _ _ _ _) hcw9) (kp_tw (cJ106 _ _ _ _ _ _ _) hcw9))))))
theorem lBX12_run__67 {J67 : Int32 → Int32 → Int32 → Int32 → ea_H → Option (Int32 × ea_H)} {J106 : Int32 → Int32 → Int32 → Int32 → Int32 → Int32 → ea_H → Option (Int32 × ea_H)} {J67_ : Int32 → Int32 → Int32 → Int32 → ea_H → Option (Int32 × ea_H)} {J106_ : Int32 → Int32 → Int32 → Int32 → Int32 → Int32 → ea_H → Option (Int32 × ea_H)}  (mJ67 : ∀ (x3 : Int32) (x4 : Int32) (x5 : Int32) (x6 : Int32) (h : ea_H), fle (J67 x3 x4 x5 x6 h) (J67_ x3 x4 x5 x6 h)) (mJ106 : ∀ (x3 : Int32) (x4 : Int32) (x6 : Int32) (sx0 : Int32) (sx1 : Int32) (sx2 : Int32) (h : ea_H), fle (J106 x3 x4 x6 sx0 sx1 sx2 h) (J106_ x3 x4 x6 sx0 sx1 sx2 h)) {x3 : Int32} {x4 : Int32} {x5 : Int32} {x6 : Int32} {h : ea_H} : fle (BX12_run__67 J67 J106 x3 x4 x5 x6 h) (BX12_run__67 J67_ J106_ x3 x4 x5 x6 h) :=
  (fle_ite (fle_rfl _) (fle_bind (fle_rfl _) fun _ => (fle_ite (fle_let fun _ => (mJ67 _ _ _ _ _)) (fle_gd (fle_ite (mJ106 _ _ _ _ _ _ _) (mJ106 _ _ _ _ _ _ _))))))
theorem nBX12_run__67 {J67 : Int32 → Int32 → Int32 → Int32 → ea_H → Option (Int32 × ea_H)} {J106 : Int32 → Int32 → Int32 → Int32 → Int32 → Int32 → ea_H → Option (Int32 × ea_H)} {J67_ : Nat → (Int32 → Int32 → Int32 → Int32 → ea_H → Option (Int32 × ea_H))} {J106_ : Nat → (Int32 → Int32 → Int32 → Int32 → Int32 → Int32 → ea_H → Option (Int32 × ea_H))}  (mJ67 : ∀ (x3 : Int32) (x4 : Int32) (x5 : Int32) (x6 : Int32) (h : ea_H), fct (J67 x3 x4 x5 x6 h) (fun f => J67_ f x3 x4 x5 x6 h)) (mJ106 : ∀ (x3 : Int32) (x4 : Int32) (x6 : Int32) (sx0 : Int32) (sx1 : Int32) (sx2 : Int32) (h : ea_H), fct (J106 x3 x4 x6 sx0 sx1 sx2 h) (fun f => J106_ f x3 x4 x6 sx0 sx1 sx2 h)) {x3 : Int32} {x4 : Int32} {x5 : Int32} {x6 : Int32} {h : ea_H} : fct (BX12_run__67 J67 J106 x3 x4 x5 x6 h) (fun f => BX12_run__67 (J67_ f) (J106_ f) x3 x4 x5 x6 h) :=
  (fct_ite (fct_rfl _) (fct_bind (fct_rfl _) fun _ => (fct_ite (fct_let fun _ => (mJ67 _ _ _ _ _)) (fct_gd (fct_ite (mJ106 _ _ _ _ _ _ _) (mJ106 _ _ _ _ _ _ _))))))
noncomputable def BX12_run__106 (J67 : Int32 → Int32 → Int32 → Int32 → ea_H → Option (Int32 × ea_H)) (x3 : Int32) (x4 : Int32) (x6 : Int32) (sx0 : Int32) (sx1 : Int32) (sx2 : Int32) (h : ea_H) : Option (Int32 × ea_H) :=
  (if sx1 = sx0 then (ea_let (sx2 + (1 : Int32)) fun (v16 : Int32) => (J67 (x3 : Int32) (x4 : Int32) (v16 : Int32) ((x6 + (1 : Int32)) : Int32) h)) else (ea_let (sx2 + (0 : Int32)) fun (v15 : Int32) => (J67 (x3 : Int32) (x4 : Int32) (v15 : Int32) ((x6 + (1 : Int32)) : Int32) h)))
theorem tBX12_run__106 {d : Nat} {h0 : ea_H} (hd : 3 ≤ d) {J67 : Int32 → Int32 → Int32 → Int32 → ea_H → Option (Int32 × ea_H)}  (kJ67 : ∀ (x3 : Int32) (x4 : Int32) (x5 : Int32) (x6 : Int32) (h : ea_H) (r : Int32) (h' : ea_H), J67 x3 x4 x5 x6 h = some (r, h') → ShM h → ea_W mX12_run_ d h0 (some (vI r)) h' 67 [(0, vR (some 326)), (3, vI x3), (4, vI x4), (5, vI x5), (6, vI x6)] [] h) {x3 : Int32} {x4 : Int32} {x6 : Int32} {sx0 : Int32} {sx1 : Int32} {sx2 : Int32} {h : ea_H} {r : Int32} {h' : ea_H} (E : BX12_run__106 J67 x3 x4 x6 sx0 sx1 sx2 h = some (r, h')) (hs : ShM h) : ea_W mX12_run_ d h0 (some (vI r)) h' 106 [(0, vR (some 326)), (3, vI x3), (4, vI x4), (6, vI x6)] [vI sx0, vI sx1, vI sx2] h := by
  unfold BX12_run__106 at E
  refine ea_icmp_ne (pc := 106) (tgt := 113) dX12_run__106 rfl (fun c17 => ?_) (fun c17 => ?_)
  · have E := (if_neg c17).symm.trans E
    obtain ⟨v15, ev15, E⟩ := let_some E
    refine ea_iconst (pc := 113) dX12_run__113 (v := 0) rfl ?_
    refine ea_iadd (pc := 114) dX12_run__114 ?_
    refine ea_istore (pc := 115) (lv' := [(0, vR (some 326)), (3, vI x3), (4, vI x4), (5, vI v15), (6, vI x6)]) dX12_run__115 (Nat.le_of_ble_eq_true rfl) [1, 2, 3, 0, 4] (by rw [ev15]; rfl) ?_
    refine ea_iinc (pc := 117) (v := 1) (lv' := [(0, vR (some 326)), (3, vI x3), (4, vI x4), (5, vI v15), (6, vI (x6 + (1 : Int32)))]) dX12_run__117 4 rfl rfl (Nat.le_of_ble_eq_true rfl) [1, 2, 3, 4, 0] rfl ?_
    refine ea_goto (pc := 120) (tgt := 67) dX12_run__120 rfl ?_
    exact (kJ67 (x3 : Int32) (x4 : Int32) (v15 : Int32) ((x6 + (1 : Int32)) : Int32) h _ _ E hs)
  · have E := (if_pos c17).symm.trans E
    obtain ⟨v16, ev16, E⟩ := let_some E
    refine ea_iconst (pc := 109) dX12_run__109 (v := 1) rfl ?_
    refine ea_goto (pc := 110) (tgt := 114) dX12_run__110 rfl ?_
    refine ea_iadd (pc := 114) dX12_run__114 ?_
    refine ea_istore (pc := 115) (lv' := [(0, vR (some 326)), (3, vI x3), (4, vI x4), (5, vI v16), (6, vI x6)]) dX12_run__115 (Nat.le_of_ble_eq_true rfl) [1, 2, 3, 0, 4] (by rw [ev16]; rfl) ?_
    refine ea_iinc (pc := 117) (v := 1) (lv' := [(0, vR (some 326)), (3, vI x3), (4, vI x4), (5, vI v16), (6, vI (x6 + (1 : Int32)))]) dX12_run__117 4 rfl rfl (Nat.le_of_ble_eq_true rfl) [1, 2, 3, 4, 0] rfl ?_
    refine ea_goto (pc := 120) (tgt := 67) dX12_run__120 rfl ?_
    exact (kJ67 (x3 : Int32) (x4 : Int32) (v16 : Int32) ((x6 + (1 : Int32)) : Int32) h _ _ E hs)
theorem kBX12_run__106 {J67 : Int32 → Int32 → Int32 → Int32 → ea_H → Option (Int32 × ea_H)}  (cJ67 : ∀ (x3 : Int32) (x4 : Int32) (x5 : Int32) (x6 : Int32) (h : ea_H), kp (ea_core h) (J67 x3 x4 x5 x6 h)) {x3 : Int32} {x4 : Int32} {x6 : Int32} {sx0 : Int32} {sx1 : Int32} {sx2 : Int32} {h : ea_H} : kp (ea_core h) (BX12_run__106 J67 x3 x4 x6 sx0 sx1 sx2 h) :=
  (kp_ite (kp_let (kp_tw (cJ67 _ _ _ _ _) rfl)) (kp_let (kp_tw (cJ67 _ _ _ _ _) rfl)))
theorem lBX12_run__106 {J67 : Int32 → Int32 → Int32 → Int32 → ea_H → Option (Int32 × ea_H)} {J67_ : Int32 → Int32 → Int32 → Int32 → ea_H → Option (Int32 × ea_H)}  (mJ67 : ∀ (x3 : Int32) (x4 : Int32) (x5 : Int32) (x6 : Int32) (h : ea_H), fle (J67 x3 x4 x5 x6 h) (J67_ x3 x4 x5 x6 h)) {x3 : Int32} {x4 : Int32} {x6 : Int32} {sx0 : Int32} {sx1 : Int32} {sx2 : Int32} {h : ea_H} : fle (BX12_run__106 J67 x3 x4 x6 sx0 sx1 sx2 h) (BX12_run__106 J67_ x3 x4 x6 sx0 sx1 sx2 h) :=
  (fle_ite (fle_let fun _ => (mJ67 _ _ _ _ _)) (fle_let fun _ => (mJ67 _ _ _ _ _)))
theorem nBX12_run__106 {J67 : Int32 → Int32 → Int32 → Int32 → ea_H → Option (Int32 × ea_H)} {J67_ : Nat → (Int32 → Int32 → Int32 → Int32 → ea_H → Option (Int32 × ea_H))}  (mJ67 : ∀ (x3 : Int32) (x4 : Int32) (x5 : Int32) (x6 : Int32) (h : ea_H), fct (J67 x3 x4 x5 x6 h) (fun f => J67_ f x3 x4 x5 x6 h)) {x3 : Int32} {x4 : Int32} {x6 : Int32} {sx0 : Int32} {sx1 : Int32} {sx2 : Int32} {h : ea_H} : fct (BX12_run__106 J67 x3 x4 x6 sx0 sx1 sx2 h) (fun f => BX12_run__106 (J67_ f) x3 x4 x6 sx0 sx1 sx2 h) :=
  (fct_ite (fct_let fun _ => (mJ67 _ _ _ _ _)) (fct_let fun _ => (mJ67 _ _ _ _ _)))
noncomputable def gX12_run_ : Nat → (Int32 → Int32 → Int32 → ea_H → Option (Int32 × ea_H)) × (Int32 → Int32 → Int32 → Int32 → ea_H → Option (Int32 × ea_H)) × (Int32 → Int32 → Int32 → Int32 → Int32 → Int32 → ea_H → Option (Int32 × ea_H))
  | 0 => (fun _ _ _ _ => none, fun _ _ _ _ _ => none, fun _ _ _ _ _ _ _ => none)
  | f + 1 => (BX12_run__0 (gX12_run_ f).2.1, BX12_run__67 (gX12_run_ f).2.1 (gX12_run_ f).2.2, BX12_run__106 (gX12_run_ f).2.1)
theorem mgX12_run_ : ∀ f : Nat, (∀ (x1 : Int32) (x2 : Int32) (x3 : Int32) (h : ea_H), fle ((gX12_run_ f).1 x1 x2 x3 h) ((gX12_run_ (f + 1)).1 x1 x2 x3 h)) ∧ (∀ (x3 : Int32) (x4 : Int32) (x5 : Int32) (x6 : Int32) (h : ea_H), fle ((gX12_run_ f).2.1 x3 x4 x5 x6 h) ((gX12_run_ (f + 1)).2.1 x3 x4 x5 x6 h)) ∧ (∀ (x3 : Int32) (x4 : Int32) (x6 : Int32) (sx0 : Int32) (sx1 : Int32) (sx2 : Int32) (h : ea_H), fle ((gX12_run_ f).2.2 x3 x4 x6 sx0 sx1 sx2 h) ((gX12_run_ (f + 1)).2.2 x3 x4 x6 sx0 sx1 sx2 h)) := by
  intro f
  induction f with
  | zero => exact ⟨fun _ _ _ _ => fle_none _, fun _ _ _ _ _ => fle_none _, fun _ _ _ _ _ _ _ => fle_none _⟩
  | succ f ih => exact ⟨fun _ _ _ _ => lBX12_run__0 ih.2.1, fun _ _ _ _ _ => lBX12_run__67 ih.2.1 ih.2.2, fun _ _ _ _ _ _ _ => lBX12_run__106 ih.2.1⟩
noncomputable def qX12_run__0 (x1 : Int32) (x2 : Int32) (x3 : Int32) (h : ea_H) : Option (Int32 × ea_H) := flim fun f => (gX12_run_ f).1 x1 x2 x3 h
noncomputable def qX12_run__67 (x3 : Int32) (x4 : Int32) (x5 : Int32) (x6 : Int32) (h : ea_H) : Option (Int32 × ea_H) := flim fun f => (gX12_run_ f).2.1 x3 x4 x5 x6 h
noncomputable def qX12_run__106 (x3 : Int32) (x4 : Int32) (x6 : Int32) (sx0 : Int32) (sx1 : Int32) (sx2 : Int32) (h : ea_H) : Option (Int32 × ea_H) := flim fun f => (gX12_run_ f).2.2 x3 x4 x6 sx0 sx1 sx2 h
theorem fqX12_run__0 (x1 : Int32) (x2 : Int32) (x3 : Int32) (h : ea_H) : fct (qX12_run__0 x1 x2 x3 h) fun f => (gX12_run_ f).1 x1 x2 x3 h := flim_ct fun f => (mgX12_run_ f).1 x1 x2 x3 h
theorem fqX12_run__67 (x3 : Int32) (x4 : Int32) (x5 : Int32) (x6 : Int32) (h : ea_H) : fct (qX12_run__67 x3 x4 x5 x6 h) fun f => (gX12_run_ f).2.1 x3 x4 x5 x6 h := flim_ct fun f => (mgX12_run_ f).2.1 x3 x4 x5 x6 h
theorem fqX12_run__106 (x3 : Int32) (x4 : Int32) (x6 : Int32) (sx0 : Int32) (sx1 : Int32) (sx2 : Int32) (h : ea_H) : fct (qX12_run__106 x3 x4 x6 sx0 sx1 sx2 h) fun f => (gX12_run_ f).2.2 x3 x4 x6 sx0 sx1 sx2 h := flim_ct fun f => (mgX12_run_ f).2.2 x3 x4 x6 sx0 sx1 sx2 h
/-- how a block opens -/
theorem uqX12_run__0 {x1 : Int32} {x2 : Int32} {x3 : Int32} {h : ea_H} {P : Int32 × ea_H → Prop} (H : sat (BX12_run__0 qX12_run__67 x1 x2 x3 h) P) : sat (qX12_run__0 x1 x2 x3 h) P := by
  obtain ⟨x, e, hp⟩ := H
  obtain ⟨n, hn⟩ := nBX12_run__0 fqX12_run__67 x e
  exact ⟨x, flim_at (fun f => (mgX12_run_ f).1 x1 x2 x3 h) (f := n + 1) (hn n (Nat.le_refl _)), hp⟩
/-- how a block opens -/
theorem uqX12_run__67 {x3 : Int32} {x4 : Int32} {x5 : Int32} {x6 : Int32} {h : ea_H} {P : Int32 × ea_H → Prop} (H : sat (BX12_run__67 qX12_run__67 qX12_run__106 x3 x4 x5 x6 h) P) : sat (qX12_run__67 x3 x4 x5 x6 h) P := by
  obtain ⟨x, e, hp⟩ := H
  obtain ⟨n, hn⟩ := nBX12_run__67 fqX12_run__67 fqX12_run__106 x e
  exact ⟨x, flim_at (fun f => (mgX12_run_ f).2.1 x3 x4 x5 x6 h) (f := n + 1) (hn n (Nat.le_refl _)), hp⟩
/-- how a block opens -/
theorem uqX12_run__106 {x3 : Int32} {x4 : Int32} {x6 : Int32} {sx0 : Int32} {sx1 : Int32} {sx2 : Int32} {h : ea_H} {P : Int32 × ea_H → Prop} (H : sat (BX12_run__106 qX12_run__67 x3 x4 x6 sx0 sx1 sx2 h) P) : sat (qX12_run__106 x3 x4 x6 sx0 sx1 sx2 h) P := by
  obtain ⟨x, e, hp⟩ := H
  obtain ⟨n, hn⟩ := nBX12_run__106 fqX12_run__67 x e
  exact ⟨x, flim_at (fun f => (mgX12_run_ f).2.2 x3 x4 x6 sx0 sx1 sx2 h) (f := n + 1) (hn n (Nat.le_refl _)), hp⟩
theorem kgX12_run_ : ∀ f : Nat, (∀ (x1 : Int32) (x2 : Int32) (x3 : Int32) (h : ea_H), kp (ea_core h) ((gX12_run_ f).1 x1 x2 x3 h)) ∧ (∀ (x3 : Int32) (x4 : Int32) (x5 : Int32) (x6 : Int32) (h : ea_H), kp (ea_core h) ((gX12_run_ f).2.1 x3 x4 x5 x6 h)) ∧ (∀ (x3 : Int32) (x4 : Int32) (x6 : Int32) (sx0 : Int32) (sx1 : Int32) (sx2 : Int32) (h : ea_H), kp (ea_core h) ((gX12_run_ f).2.2 x3 x4 x6 sx0 sx1 sx2 h)) := by
  intro f
  induction f with
  | zero => exact ⟨fun _ _ _ _ => kp_none _, fun _ _ _ _ _ => kp_none _, fun _ _ _ _ _ _ _ => kp_none _⟩
  | succ f ih => exact ⟨fun _ _ _ _ => kBX12_run__0 ih.2.1, fun _ _ _ _ _ => kBX12_run__67 ih.2.1 ih.2.2, fun _ _ _ _ _ _ _ => kBX12_run__106 ih.2.1⟩
theorem tgX12_run_ {d : Nat} {h0 : ea_H} (hd : 3 ≤ d) : ∀ f : Nat, (∀ (x1 : Int32) (x2 : Int32) (x3 : Int32) (h : ea_H) (r : Int32) (h' : ea_H), (gX12_run_ f).1 x1 x2 x3 h = some (r, h') → ShM h → ea_W mX12_run_ d h0 (some (vI r)) h' 0 [(0, vR (some 326)), (1, vI x1), (2, vI x2), (3, vI x3)] [] h) ∧ (∀ (x3 : Int32) (x4 : Int32) (x5 : Int32) (x6 : Int32) (h : ea_H) (r : Int32) (h' : ea_H), (gX12_run_ f).2.1 x3 x4 x5 x6 h = some (r, h') → ShM h → ea_W mX12_run_ d h0 (some (vI r)) h' 67 [(0, vR (some 326)), (3, vI x3), (4, vI x4), (5, vI x5), (6, vI x6)] [] h) ∧ (∀ (x3 : Int32) (x4 : Int32) (x6 : Int32) (sx0 : Int32) (sx1 : Int32) (sx2 : Int32) (h : ea_H) (r : Int32) (h' : ea_H), (gX12_run_ f).2.2 x3 x4 x6 sx0 sx1 sx2 h = some (r, h') → ShM h → ea_W mX12_run_ d h0 (some (vI r)) h' 106 [(0, vR (some 326)), (3, vI x3), (4, vI x4), (6, vI x6)] [vI sx0, vI sx1, vI sx2] h) := by
  intro f
  induction f with
  | zero => exact ⟨fun _ _ _ _ _ _ E => no_some E, fun _ _ _ _ _ _ _ E => no_some E, fun _ _ _ _ _ _ _ _ _ E => no_some E⟩
  | succ f ih => exact ⟨fun _ _ _ _ _ _ E hs => tBX12_run__0 hd ih.2.1 E hs, fun _ _ _ _ _ _ _ E hs => tBX12_run__67 hd ih.2.1 ih.2.2 E hs, fun _ _ _ _ _ _ _ _ _ E hs => tBX12_run__106 hd ih.2.1 E hs⟩
noncomputable def qX12_run_ (x1 : Int32) (x2 : Int32) (x3 : Int32) (h : ea_H) : Option (Int32 × ea_H) := qX12_run__0 x1 x2 x3 h
theorem sX12_run_ {d : Nat} {x1 : Int32} {x2 : Int32} {x3 : Int32} {h : ea_H} {r : Int32} {h' : ea_H} (hd : 3 ≤ d) (hs : ShM h) (K : qX12_run_ x1 x2 x3 h = some (r, h')) : ea_Met mX12_run_ d [vR (some 326), vI x1, vI x2, vI x3] h (some (vI r)) h' := by
  unfold qX12_run_ at K
  obtain ⟨n, hn⟩ := fqX12_run__0 x1 x2 x3 h _ K
  have W := (tgX12_run_ (d := d) (h0 := h) hd n).1 x1 x2 x3 h _ _ (hn n (Nat.le_refl _)) hs
  exact ea_enter rfl (Nat.le_of_ble_eq_true rfl) W
theorem kpX12_run_ (x1 : Int32) (x2 : Int32) (x3 : Int32) (h : ea_H) : kp (ea_core h) (qX12_run_ x1 x2 x3 h) := fun x e => by
  obtain ⟨n, hn⟩ := fqX12_run__0 x1 x2 x3 h x e
  exact (kgX12_run_ n).1 x1 x2 x3 h x (hn n (Nat.le_refl _))
noncomputable def BX12_table_0 (J20 : Int32 → ea_H → Option (Unit × ea_H)) (h : ea_H) : Option (Unit × ea_H) :=
  (if (ea_i h 326 12) = (0 : Int32) then (ea_let (ea_wi h 326 12 1) fun H1 => (ea_let (ea_wi H1 326 13 0) fun H2 => (J20 (0 : Int32) H2))) else (some ((), h)))
set_option maxRecDepth 100000 in
set_option maxHeartbeats 0 in
theorem tBX12_table_0 {d : Nat} {h0 : ea_H} (hd : 4 ≤ d) {J20 : Int32 → ea_H → Option (Unit × ea_H)}  (kJ20 : ∀ (x1 : Int32) (h : ea_H) (r : Unit) (h' : ea_H), J20 x1 h = some (r, h') → ShM h → ea_W mX12_table d h0 none h' 20 [(0, vR (some 326)), (1, vI x1)] [] h) {h : ea_H} {r : Unit} {h' : ea_H} (E : BX12_table_0 J20 h = some (r, h')) (hs : ShM h) : ea_W mX12_table d h0 none h' 0 [(0, vR (some 326))] [] h := by
  unfold BX12_table_0 at E
  refine ea_aload_n (pc := 0) dX12_table_0 rfl 0 rfl ?_
  refine ea_getI (pc := 1) dX12_table_1 ec_12 (k := 12) (Nat.le_of_ble_eq_true rfl) rfl (Or.inl ew_1414) (cShM_326 hs).1 (cShM_326 hs).2.1 ?_
  refine ea_if_eq (pc := 4) (tgt := 8) dX12_table_4 rfl (fun c3 => ?_) (fun c3 => ?_)
  · have E := (if_pos c3).symm.trans E
    obtain ⟨H1, eH1, E⟩ := let_some E
    refine ea_aload_n (pc := 8) dX12_table_8 rfl 0 rfl ?_
    refine ea_iconst (pc := 9) dX12_table_9 (v := 1) rfl ?_
    refine ea_putI (pc := 10) dX12_table_10 ec_12 (k := 12) (Nat.le_of_ble_eq_true rfl) rfl (Or.inl ⟨rfl, Or.inl ew_1414⟩) (ea_bn (Or.inr rfl)) (ea_bf (Or.inr rfl)) (cShM_326 hs).1 (cShM_326 hs).2.1 ?_
    refine ea_nm eH1 ?_
    have hsH1 : ShM H1 := by rw [eH1]; exact hs
    obtain ⟨H2, eH2, E⟩ := let_some E
    refine ea_aload_n (pc := 13) dX12_table_13 rfl 0 rfl ?_
    refine ea_iconst (pc := 14) dX12_table_14 (v := 0) rfl ?_
    refine ea_putI (pc := 15) dX12_table_15 ec_12 (k := 13) (Nat.le_of_ble_eq_true rfl) rfl (Or.inl ⟨rfl, Or.inl ew_1415⟩) rfl rfl (cShM_326 hsH1).1 (cShM_326 hsH1).2.1 ?_
    refine ea_nm eH2 ?_
    have hsH2 : ShM H2 := by rw [eH2]; exact hsH1
    refine ea_iconst (pc := 18) dX12_table_18 (v := 0) rfl ?_
    refine ea_istore_n (pc := 19) (lv' := [(0, vR (some 326)), (1, vI 0)]) dX12_table_19 rfl (Nat.le_of_ble_eq_true rfl) [1, 0] rfl ?_
    exact (kJ20 (0 : Int32) H2 _ _ E hsH2)
  · have E := (if_neg c3).symm.trans E
    exact ea_vretO (pc := 7) dX12_table_7 rfl E
set_option maxRecDepth 100000 in
set_option maxHeartbeats 0 in
theorem kBX12_table_0 {J20 : Int32 → ea_H → Option (Unit × ea_H)}  (cJ20 : ∀ (x1 : Int32) (h : ea_H), kp (ea_core h) (J20 x1 h)) {h : ea_H} : kp (ea_core h) (BX12_table_0 J20 h) :=
  (kp_ite (kp_let (kp_let (kp_tw (cJ20 _ _) rfl))) (kp_ret rfl))
set_option maxRecDepth 100000 in
set_option maxHeartbeats 0 in
theorem lBX12_table_0 {J20 : Int32 → ea_H → Option (Unit × ea_H)} {J20_ : Int32 → ea_H → Option (Unit × ea_H)}  (mJ20 : ∀ (x1 : Int32) (h : ea_H), fle (J20 x1 h) (J20_ x1 h)) {h : ea_H} : fle (BX12_table_0 J20 h) (BX12_table_0 J20_ h) :=
  (fle_ite (fle_let fun _ => (fle_let fun _ => (mJ20 _ _))) (fle_rfl _))
set_option maxRecDepth 100000 in
set_option maxHeartbeats 0 in
theorem nBX12_table_0 {J20 : Int32 → ea_H → Option (Unit × ea_H)} {J20_ : Nat → (Int32 → ea_H → Option (Unit × ea_H))}  (mJ20 : ∀ (x1 : Int32) (h : ea_H), fct (J20 x1 h) (fun f => J20_ f x1 h)) {h : ea_H} : fct (BX12_table_0 J20 h) (fun f => BX12_table_0 (J20_ f) h) :=
  (fct_ite (fct_let fun _ => (fct_let fun _ => (mJ20 _ _))) (fct_rfl _))
noncomputable def BX12_table_20 (J20 : Int32 → ea_H → Option (Unit × ea_H)) (J41 : ea_H → Option (Unit × ea_H)) (x1 : Int32) (h : ea_H) : Option (Unit × ea_H) :=
  (if (70 : Int32) ≤ x1 then (J41 h) else (gd (vp_in x1 70) (ea_let (ea_wi h 340 (Int32.toNatClampNeg x1) 0) fun H5 => (J20 ((x1 + (1 : Int32)) : Int32) H5))))
set_option maxRecDepth 100000 in
set_option maxHeartbeats 0 in
theorem tBX12_table_20 {d : Nat} {h0 : ea_H} (hd : 4 ≤ d) {J20 : Int32 → ea_H → Option (Unit × ea_H)} {J41 : ea_H → Option (Unit × ea_H)}  (kJ20 : ∀ (x1 : Int32) (h : ea_H) (r : Unit) (h' : ea_H), J20 x1 h = some (r, h') → ShM h → ea_W mX12_table d h0 none h' 20 [(0, vR (some 326)), (1, vI x1)] [] h) (kJ41 : ∀ (h : ea_H) (r : Unit) (h' : ea_H), J41 h = some (r, h') → ShM h → ea_W mX12_table d h0 none h' 41 [(0, vR (some 326))] [] h) {x1 : Int32} {h : ea_H} {r : Unit} {h' : ea_H} (E : BX12_table_20 J20 J41 x1 h = some (r, h')) (hs : ShM h) : ea_W mX12_table d h0 none h' 20 [(0, vR (some 326)), (1, vI x1)] [] h := by
  unfold BX12_table_20 at E
  refine ea_iload_n (pc := 20) dX12_table_20 rfl 1 rfl ?_
  refine ea_bipush (pc := 21) dX12_table_21 (v := 70) rfl ?_
  refine ea_icmp_ge (pc := 23) (tgt := 39) dX12_table_23 rfl (fun c6 => ?_) (fun c6 => ?_)
  · have E := (if_pos c6).symm.trans E
    refine ea_iconst (pc := 39) dX12_table_39 (v := (-1)) rfl ?_
    refine ea_istore_n (pc := 40) (lv' := [(0, vR (some 326))]) dX12_table_40 rfl (Nat.le_of_ble_eq_true rfl) [1] rfl ?_
    exact (kJ41 h _ _ E hs)
  · have E := (if_neg c6).symm.trans E
    obtain ⟨z4, E⟩ := gd_some E
    refine ea_aload_n (pc := 26) dX12_table_26 rfl 0 rfl ?_
    refine ea_getR (pc := 27) dX12_table_27 ec_12 (k := 18) (Nat.le_of_ble_eq_true rfl) rfl (Or.inl ew_1420) (cShM_326 hs).1 (cShM_326 hs).2.1 (rShM_326_18 hs) ?_
    refine ea_iload_n (pc := 30) dX12_table_30 rfl 1 rfl ?_
    refine ea_iconst (pc := 31) dX12_table_31 (v := 0) rfl ?_
    obtain ⟨H5, eH5, E⟩ := let_some E
    refine ea_iast (pc := 32) dX12_table_32 (cShM_340 hs).1 (cShM_340 hs).2.1 (ea_vpl (cShM_340 hs).2.2 z4) ?_
    refine ea_nm eH5 ?_
    have hsH5 : ShM H5 := by rw [eH5]; exact hs
    refine ea_iinc (pc := 33) (v := 1) (lv' := [(0, vR (some 326)), (1, vI (x1 + (1 : Int32)))]) dX12_table_33 1 rfl rfl (Nat.le_of_ble_eq_true rfl) [1, 0] rfl ?_
    refine ea_goto (pc := 36) (tgt := 20) dX12_table_36 rfl ?_
    exact (kJ20 ((x1 + (1 : Int32)) : Int32) H5 _ _ E hsH5)
set_option maxRecDepth 100000 in
set_option maxHeartbeats 0 in
theorem kBX12_table_20 {J20 : Int32 → ea_H → Option (Unit × ea_H)} {J41 : ea_H → Option (Unit × ea_H)}  (cJ20 : ∀ (x1 : Int32) (h : ea_H), kp (ea_core h) (J20 x1 h)) (cJ41 : ∀ (h : ea_H), kp (ea_core h) (J41 h)) {x1 : Int32} {h : ea_H} : kp (ea_core h) (BX12_table_20 J20 J41 x1 h) :=
  (kp_ite (kp_tw (cJ41 _) rfl) (kp_gd (kp_let (kp_tw (cJ20 _ _) rfl))))
set_option maxRecDepth 100000 in
set_option maxHeartbeats 0 in
theorem lBX12_table_20 {J20 : Int32 → ea_H → Option (Unit × ea_H)} {J41 : ea_H → Option (Unit × ea_H)} {J20_ : Int32 → ea_H → Option (Unit × ea_H)} {J41_ : ea_H → Option (Unit × ea_H)}  (mJ20 : ∀ (x1 : Int32) (h : ea_H), fle (J20 x1 h) (J20_ x1 h)) (mJ41 : ∀ (h : ea_H), fle (J41 h) (J41_ h)) {x1 : Int32} {h : ea_H} : fle (BX12_table_20 J20 J41 x1 h) (BX12_table_20 J20_ J41_ x1 h) :=
  (fle_ite (mJ41 _) (fle_gd (fle_let fun _ => (mJ20 _ _))))
set_option maxRecDepth 100000 in
set_option maxHeartbeats 0 in
theorem nBX12_table_20 {J20 : Int32 → ea_H → Option (Unit × ea_H)} {J41 : ea_H → Option (Unit × ea_H)} {J20_ : Nat → (Int32 → ea_H → Option (Unit × ea_H))} {J41_ : Nat → (ea_H → Option (Unit × ea_H))}  (mJ20 : ∀ (x1 : Int32) (h : ea_H), fct (J20 x1 h) (fun f => J20_ f x1 h)) (mJ41 : ∀ (h : ea_H), fct (J41 h) (fun f => J41_ f h)) {x1 : Int32} {h : ea_H} : fct (BX12_table_20 J20 J41 x1 h) (fun f => BX12_table_20 (J20_ f) (J41_ f) x1 h) :=
  (fct_ite (mJ41 _) (fct_gd (fct_let fun _ => (mJ20 _ _))))
noncomputable def BX12_table_41 (J45 : Int32 → Int32 → ea_H → Option (Unit × ea_H)) (h : ea_H) : Option (Unit × ea_H) :=
  (J45 ((-1) : Int32) (0 : Int32) h)
set_option maxRecDepth 100000 in
set_option maxHeartbeats 0 in
theorem tBX12_table_41 {d : Nat} {h0 : ea_H} (hd : 4 ≤ d) {J45 : Int32 → Int32 → ea_H → Option (Unit × ea_H)}  (kJ45 : ∀ (x1 : Int32) (x2 : Int32) (h : ea_H) (r : Unit) (h' : ea_H), J45 x1 x2 h = some (r, h') → ShM h → ea_W mX12_table d h0 none h' 45 [(0, vR (some 326)), (1, vI x1), (2, vI x2)] [] h) {h : ea_H} {r : Unit} {h' : ea_H} (E : BX12_table_41 J45 h = some (r, h')) (hs : ShM h) : ea_W mX12_table d h0 none h' 41 [(0, vR (some 326))] [] h := by
  unfold BX12_table_41 at E
  refine ea_iconst (pc := 41) dX12_table_41 (v := (-1)) rfl ?_
  refine ea_istore_n (pc := 42) (lv' := [(0, vR (some 326)), (1, vI (-1))]) dX12_table_42 rfl (Nat.le_of_ble_eq_true rfl) [1, 0] rfl ?_
  refine ea_iconst (pc := 43) dX12_table_43 (v := 0) rfl ?_
  refine ea_istore_n (pc := 44) (lv' := [(0, vR (some 326)), (1, vI (-1)), (2, vI 0)]) dX12_table_44 rfl (Nat.le_of_ble_eq_true rfl) [1, 2, 0] rfl ?_
  exact (kJ45 ((-1) : Int32) (0 : Int32) h _ _ E hs)
set_option maxRecDepth 100000 in
set_option maxHeartbeats 0 in
theorem kBX12_table_41 {J45 : Int32 → Int32 → ea_H → Option (Unit × ea_H)}  (cJ45 : ∀ (x1 : Int32) (x2 : Int32) (h : ea_H), kp (ea_core h) (J45 x1 x2 h)) {h : ea_H} : kp (ea_core h) (BX12_table_41 J45 h) :=
  (kp_tw (cJ45 _ _ _) rfl)
set_option maxRecDepth 100000 in
set_option maxHeartbeats 0 in
theorem lBX12_table_41 {J45 : Int32 → Int32 → ea_H → Option (Unit × ea_H)} {J45_ : Int32 → Int32 → ea_H → Option (Unit × ea_H)}  (mJ45 : ∀ (x1 : Int32) (x2 : Int32) (h : ea_H), fle (J45 x1 x2 h) (J45_ x1 x2 h)) {h : ea_H} : fle (BX12_table_41 J45 h) (BX12_table_41 J45_ h) :=
  (mJ45 _ _ _)
set_option maxRecDepth 100000 in
set_option maxHeartbeats 0 in
theorem nBX12_table_41 {J45 : Int32 → Int32 → ea_H → Option (Unit × ea_H)} {J45_ : Nat → (Int32 → Int32 → ea_H → Option (Unit × ea_H))}  (mJ45 : ∀ (x1 : Int32) (x2 : Int32) (h : ea_H), fct (J45 x1 x2 h) (fun f => J45_ f x1 x2 h)) {h : ea_H} : fct (BX12_table_41 J45 h) (fun f => BX12_table_41 (J45_ f) h) :=
  (mJ45 _ _ _)
noncomputable def BX12_table_45 (J45 : Int32 → Int32 → ea_H → Option (Unit × ea_H)) (J138 : Int32 → Int32 → Int32 → ea_H → Option (Unit × ea_H)) (J188 : Int32 → ea_H → Option (Unit × ea_H)) (x1 : Int32) (x2 : Int32) (h : ea_H) : Option (Unit × ea_H) :=
  (if ((7 : Int32) * (ea_i h 326 2)) ≤ x2 then (if x1 = ((-1) : Int32) then (J188 (x1 : Int32) h) else (gd (vp_in x1 70) (Option.bind (qX12_minuteOf (x1 : Int32) ((ea_i h 340 (Int32.toNatClampNeg x1)) : Int32) h) fun w8 => (gd (vp_in (ea_i h 326 13) 1000) (ea_let (ea_wi w8.2 336 (Int32.toNatClampNeg (ea_i h 326 13)) w8.1) fun H10 => (gd (vp_in x1 70) (if ((ea_i H10 340 (Int32.toNatClampNeg x1)) - (ea_i H10 340 (Int32.toNatClampNeg x1)) / (2 : Int32) * (2 : Int32)) = (0 : Int32) then (J138 (x1 : Int32) (1 : Int32) ((ea_i H10 326 13) : Int32) H10) else (J138 (x1 : Int32) (0 : Int32) ((ea_i H10 326 13) : Int32) H10)))))))) else (Option.bind (qX12_isMore (x2 : Int32) h) fun w14 => (if w14.1 = (0 : Int32) then (J45 (x1 : Int32) ((x2 + (1 : Int32)) : Int32) w14.2) else (if x1 = ((-1) : Int32) then (J45 (x2 : Int32) ((x2 + (1 : Int32)) : Int32) w14.2) else (Option.bind (qX12_isAheadOf (x2 : Int32) (x1 : Int32) w14.2) fun w15 => (if w15.1 = (0 : Int32) then (J45 (x1 : Int32) ((x2 + (1 : Int32)) : Int32) w15.2) else (J45 (x2 : Int32) ((x2 + (1 : Int32)) : Int32) w15.2)))))))
set_option maxRecDepth 100000 in
set_option maxHeartbeats 0 in
theorem tBX12_table_45 {d : Nat} {h0 : ea_H} (hd : 4 ≤ d) {J45 : Int32 → Int32 → ea_H → Option (Unit × ea_H)} {J138 : Int32 → Int32 → Int32 → ea_H → Option (Unit × ea_H)} {J188 : Int32 → ea_H → Option (Unit × ea_H)}  (kJ45 : ∀ (x1 : Int32) (x2 : Int32) (h : ea_H) (r : Unit) (h' : ea_H), J45 x1 x2 h = some (r, h') → ShM h → ea_W mX12_table d h0 none h' 45 [(0, vR (some 326)), (1, vI x1), (2, vI x2)] [] h) (kJ138 : ∀ (x1 : Int32) (sx0 : Int32) (sx1 : Int32) (h : ea_H) (r : Unit) (h' : ea_H), J138 x1 sx0 sx1 h = some (r, h') → ShM h → ea_W mX12_table d h0 none h' 138 [(0, vR (some 326)), (1, vI x1)] [vI sx0, vI sx1, vR (some 337)] h) (kJ188 : ∀ (x1 : Int32) (h : ea_H) (r : Unit) (h' : ea_H), J188 x1 h = some (r, h') → ShM h → ea_W mX12_table d h0 none h' 188 [(0, vR (some 326)), (1, vI x1)] [] h) {x1 : Int32} {x2 : Int32} {h : ea_H} {r : Unit} {h' : ea_H} (E : BX12_table_45 J45 J138 J188 x1 x2 h = some (r, h')) (hs : ShM h) : ea_W mX12_table d h0 none h' 45 [(0, vR (some 326)), (1, vI x1), (2, vI x2)] [] h := by
  unfold BX12_table_45 at E
  refine ea_iload_n (pc := 45) dX12_table_45 rfl 2 rfl ?_
  refine ea_bipush (pc := 46) dX12_table_46 (v := 7) rfl ?_
  refine ea_aload_n (pc := 48) dX12_table_48 rfl 0 rfl ?_
  refine ea_getI (pc := 49) dX12_table_49 ec_12 (k := 2) (Nat.le_of_ble_eq_true rfl) rfl (Or.inl ew_1404) (cShM_326 hs).1 (cShM_326 hs).2.1 ?_
  refine ea_imul (pc := 52) dX12_table_52 ?_
  refine ea_icmp_ge (pc := 53) (tgt := 86) dX12_table_53 rfl (fun c19 => ?_) (fun c19 => ?_)
  · have E := (if_pos c19).symm.trans E
    refine ea_iload_n (pc := 86) dX12_table_86 rfl 1 rfl ?_
    refine ea_iconst (pc := 87) dX12_table_87 (v := (-1)) rfl ?_
    refine ea_icmp_ne (pc := 88) (tgt := 94) dX12_table_88 rfl (fun c13 => ?_) (fun c13 => ?_)
    · have E := (if_neg c13).symm.trans E
      obtain ⟨z7, E⟩ := gd_some E
      refine ea_aload_n (pc := 94) dX12_table_94 rfl 0 rfl ?_
      refine ea_getR (pc := 95) dX12_table_95 ec_12 (k := 14) (Nat.le_of_ble_eq_true rfl) rfl (Or.inl ew_1416) (cShM_326 hs).1 (cShM_326 hs).2.1 (rShM_326_14 hs) ?_
      refine ea_aload_n (pc := 98) dX12_table_98 rfl 0 rfl ?_
      refine ea_getI (pc := 99) dX12_table_99 ec_12 (k := 13) (Nat.le_of_ble_eq_true rfl) rfl (Or.inl ew_1415) (cShM_326 hs).1 (cShM_326 hs).2.1 ?_
      refine ea_aload_n (pc := 102) dX12_table_102 rfl 0 rfl ?_
      refine ea_iload_n (pc := 103) dX12_table_103 rfl 1 rfl ?_
      refine ea_aload_n (pc := 104) dX12_table_104 rfl 0 rfl ?_
      refine ea_getR (pc := 105) dX12_table_105 ec_12 (k := 18) (Nat.le_of_ble_eq_true rfl) rfl (Or.inl ew_1420) (cShM_326 hs).1 (cShM_326 hs).2.1 (rShM_326_18 hs) ?_
      refine ea_iload_n (pc := 108) dX12_table_108 rfl 1 rfl ?_
      obtain ⟨w8, Ew8, E⟩ := bd_some E
      have hsw8 : ShM w8.2 := ShM_core ((kpX12_minuteOf _ _ _) _ Ew8) hs
      refine ea_iald (pc := 109) dX12_table_109 (cShM_340 hs).1 (cShM_340 hs).2.1 (ea_vpl (cShM_340 hs).2.2 z7) ?_
      refine ea_callV (pc := 110) (d' := d - 1) (As := [vI x1, vI (ea_i h 340 (Int32.toNatClampNeg x1))]) (st := [vI (ea_i h 326 13), vR (some 336)]) dX12_table_110 kX12_minuteOf (sX12_minuteOf (d := d - 1) (by omega) hs Ew8) (by omega) rfl (Nat.le_of_ble_eq_true rfl) ew_1839 ew_1841 ew_63 (ci := 12) rfl (by decide) (cShM_326 hs).1 (cShM_326 hs).2.1 ?_
      obtain ⟨z9, E⟩ := gd_some E
      obtain ⟨H10, eH10, E⟩ := let_some E
      refine ea_iast (pc := 113) dX12_table_113 (cShM_336 hsw8).1 (cShM_336 hsw8).2.1 (ea_vpl (cShM_336 hsw8).2.2 z9) ?_
      refine ea_nm eH10 ?_
      have hsH10 : ShM H10 := by rw [eH10]; exact hsw8
      obtain ⟨z11, E⟩ := gd_some E
      refine ea_aload_n (pc := 114) dX12_table_114 rfl 0 rfl ?_
      refine ea_getR (pc := 115) dX12_table_115 ec_12 (k := 15) (Nat.le_of_ble_eq_true rfl) rfl (Or.inl ew_1417) (cShM_326 hsH10).1 (cShM_326 hsH10).2.1 (rShM_326_15 hsH10) ?_
      refine ea_aload_n (pc := 118) dX12_table_118 rfl 0 rfl ?_
      refine ea_getI (pc := 119) dX12_table_119 ec_12 (k := 13) (Nat.le_of_ble_eq_true rfl) rfl (Or.inl ew_1415) (cShM_326 hsH10).1 (cShM_326 hsH10).2.1 ?_
      refine ea_aload_n (pc := 122) dX12_table_122 rfl 0 rfl ?_
      refine ea_getR (pc := 123) dX12_table_123 ec_12 (k := 18) (Nat.le_of_ble_eq_true rfl) rfl (Or.inl ew_1420) (cShM_326 hsH10).1 (cShM_326 hsH10).2.1 (rShM_326_18 hsH10) ?_
      refine ea_iload_n (pc := 126) dX12_table_126 rfl 1 rfl ?_
      refine ea_iald (pc := 127) dX12_table_127 (cShM_340 hsH10).1 (cShM_340 hsH10).2.1 (ea_vpl (cShM_340 hsH10).2.2 z11) ?_
      refine ea_iconst (pc := 128) dX12_table_128 (v := 2) rfl ?_
      refine ea_irem (pc := 129) dX12_table_129 (by decide) ?_
      refine ea_if_ne (pc := 130) (tgt := 137) dX12_table_130 rfl (fun c12 => ?_) (fun c12 => ?_)
      · have E := (if_neg c12).symm.trans E
        refine ea_iconst (pc := 137) dX12_table_137 (v := 0) rfl ?_
        exact ea_fewer [0, 1] rfl (kJ138 (x1 : Int32) (0 : Int32) ((ea_i H10 326 13) : Int32) H10 _ _ E hsH10)
      · have E := (if_pos c12).symm.trans E
        refine ea_iconst (pc := 133) dX12_table_133 (v := 1) rfl ?_
        refine ea_goto (pc := 134) (tgt := 138) dX12_table_134 rfl ?_
        exact ea_fewer [0, 1] rfl (kJ138 (x1 : Int32) (1 : Int32) ((ea_i H10 326 13) : Int32) H10 _ _ E hsH10)
    · have E := (if_pos c13).symm.trans E
      refine ea_goto (pc := 91) (tgt := 188) dX12_table_91 rfl ?_
      exact ea_fewer [0, 1] rfl (kJ188 (x1 : Int32) h _ _ E hs)
  · have E := (if_neg c19).symm.trans E
    obtain ⟨w14, Ew14, E⟩ := bd_some E
    have hsw14 : ShM w14.2 := ShM_core ((kpX12_isMore _ _) _ Ew14) hs
    refine ea_aload_n (pc := 56) dX12_table_56 rfl 0 rfl ?_
    refine ea_iload_n (pc := 57) dX12_table_57 rfl 2 rfl ?_
    refine ea_callV (pc := 58) (d' := d - 1) (As := [vI x2]) (st := []) dX12_table_58 kX12_isMore (sX12_isMore (d := d - 1) (by omega) hs Ew14) (by omega) rfl (Nat.le_of_ble_eq_true rfl) ew_1835 ew_1837 ew_62 (ci := 12) rfl (by decide) (cShM_326 hs).1 (cShM_326 hs).2.1 ?_
    refine ea_if_eq (pc := 61) (tgt := 80) dX12_table_61 rfl (fun c18 => ?_) (fun c18 => ?_)
    · have E := (if_pos c18).symm.trans E
      refine ea_iinc (pc := 80) (v := 1) (lv' := [(0, vR (some 326)), (1, vI x1), (2, vI (x2 + (1 : Int32)))]) dX12_table_80 2 rfl rfl (Nat.le_of_ble_eq_true rfl) [1, 2, 0] rfl ?_
      refine ea_goto (pc := 83) (tgt := 45) dX12_table_83 rfl ?_
      exact (kJ45 (x1 : Int32) ((x2 + (1 : Int32)) : Int32) w14.2 _ _ E hsw14)
    · have E := (if_neg c18).symm.trans E
      refine ea_iload_n (pc := 64) dX12_table_64 rfl 1 rfl ?_
      refine ea_iconst (pc := 65) dX12_table_65 (v := (-1)) rfl ?_
      refine ea_icmp_eq (pc := 66) (tgt := 78) dX12_table_66 rfl (fun c17 => ?_) (fun c17 => ?_)
      · have E := (if_pos c17).symm.trans E
        refine ea_iload_n (pc := 78) dX12_table_78 rfl 2 rfl ?_
        refine ea_istore_n (pc := 79) (lv' := [(0, vR (some 326)), (1, vI x2), (2, vI x2)]) dX12_table_79 rfl (Nat.le_of_ble_eq_true rfl) [1, 0, 2] rfl ?_
        refine ea_iinc (pc := 80) (v := 1) (lv' := [(0, vR (some 326)), (1, vI x2), (2, vI (x2 + (1 : Int32)))]) dX12_table_80 2 rfl rfl (Nat.le_of_ble_eq_true rfl) [1, 2, 0] rfl ?_
        refine ea_goto (pc := 83) (tgt := 45) dX12_table_83 rfl ?_
        exact (kJ45 (x2 : Int32) ((x2 + (1 : Int32)) : Int32) w14.2 _ _ E hsw14)
      · have E := (if_neg c17).symm.trans E
        obtain ⟨w15, Ew15, E⟩ := bd_some E
        have hsw15 : ShM w15.2 := ShM_core ((kpX12_isAheadOf _ _ _) _ Ew15) hsw14
        refine ea_aload_n (pc := 69) dX12_table_69 rfl 0 rfl ?_
        refine ea_iload_n (pc := 70) dX12_table_70 rfl 2 rfl ?_
        refine ea_iload_n (pc := 71) dX12_table_71 rfl 1 rfl ?_
        refine ea_callV (pc := 72) (d' := d - 1) (As := [vI x2, vI x1]) (st := []) dX12_table_72 kX12_isAheadOf (sX12_isAheadOf (d := d - 1) (by omega) hsw14 Ew15) (by omega) rfl (Nat.le_of_ble_eq_true rfl) ew_1847 ew_1849 ew_65 (ci := 12) rfl (by decide) (cShM_326 hsw14).1 (cShM_326 hsw14).2.1 ?_
        refine ea_if_eq (pc := 75) (tgt := 80) dX12_table_75 rfl (fun c16 => ?_) (fun c16 => ?_)
        · have E := (if_pos c16).symm.trans E
          refine ea_iinc (pc := 80) (v := 1) (lv' := [(0, vR (some 326)), (1, vI x1), (2, vI (x2 + (1 : Int32)))]) dX12_table_80 2 rfl rfl (Nat.le_of_ble_eq_true rfl) [1, 2, 0] rfl ?_
          refine ea_goto (pc := 83) (tgt := 45) dX12_table_83 rfl ?_
          exact (kJ45 (x1 : Int32) ((x2 + (1 : Int32)) : Int32) w15.2 _ _ E hsw15)
        · have E := (if_neg c16).symm.trans E
          refine ea_iload_n (pc := 78) dX12_table_78 rfl 2 rfl ?_
          refine ea_istore_n (pc := 79) (lv' := [(0, vR (some 326)), (1, vI x2), (2, vI x2)]) dX12_table_79 rfl (Nat.le_of_ble_eq_true rfl) [1, 0, 2] rfl ?_
          refine ea_iinc (pc := 80) (v := 1) (lv' := [(0, vR (some 326)), (1, vI x2), (2, vI (x2 + (1 : Int32)))]) dX12_table_80 2 rfl rfl (Nat.le_of_ble_eq_true rfl) [1, 2, 0] rfl ?_
          refine ea_goto (pc := 83) (tgt := 45) dX12_table_83 rfl ?_
          exact (kJ45 (x2 : Int32) ((x2 + (1 : Int32)) : Int32) w15.2 _ _ E hsw15)
set_option maxRecDepth 100000 in
set_option maxHeartbeats 0 in
theorem kBX12_table_45 {J45 : Int32 → Int32 → ea_H → Option (Unit × ea_H)} {J138 : Int32 → Int32 → Int32 → ea_H → Option (Unit × ea_H)} {J188 : Int32 → ea_H → Option (Unit × ea_H)}  (cJ45 : ∀ (x1 : Int32) (x2 : Int32) (h : ea_H), kp (ea_core h) (J45 x1 x2 h)) (cJ138 : ∀ (x1 : Int32) (sx0 : Int32) (sx1 : Int32) (h : ea_H), kp (ea_core h) (J138 x1 sx0 sx1 h)) (cJ188 : ∀ (x1 : Int32) (h : ea_H), kp (ea_core h) (J188 x1 h)) {x1 : Int32} {x2 : Int32} {h : ea_H} : kp (ea_core h) (BX12_table_45 J45 J138 J188 x1 x2 h) :=
  (kp_ite (kp_ite (kp_tw (cJ188 _ _) rfl) (kp_gd (kp_bind (kp_tw (kpX12_minuteOf _ _ _) rfl) fun w8 hcw8 => (kp_gd (kp_let (kp_gd (kp_ite (kp_tw (cJ138 _ _ _ _) hcw8) (kp_tw (cJ138 _ _ _ _) hcw8)))))))) (kp_bind (kp_tw (kpX12_isMore _ _) rfl) fun w14 hcw14 => (kp_ite (kp_tw (cJ45 _ _ _) hcw14) (kp_ite (kp_tw (cJ45 _ _ _) hcw14) (kp_bind (kp_tw (kpX12_isAheadOf _ _ _) hcw14) fun w15 hcw15 => (kp_ite (kp_tw (cJ45 _ _ _) hcw15) (kp_tw (cJ45 _ _ _) hcw15)))))))
set_option maxRecDepth 100000 in
set_option maxHeartbeats 0 in
theorem lBX12_table_45 {J45 : Int32 → Int32 → ea_H → Option (Unit × ea_H)} {J138 : Int32 → Int32 → Int32 → ea_H → Option (Unit × ea_H)} {J188 : Int32 → ea_H → Option (Unit × ea_H)} {J45_ : Int32 → Int32 → ea_H → Option (Unit × ea_H)} {J138_ : Int32 → Int32 → Int32 → ea_H → Option (Unit × ea_H)} {J188_ : Int32 → ea_H → Option (Unit × ea_H)}  (mJ45 : ∀ (x1 : Int32) (x2 : Int32) (h : ea_H), fle (J45 x1 x2 h) (J45_ x1 x2 h)) (mJ138 : ∀ (x1 : Int32) (sx0 : Int32) (sx1 : Int32) (h : ea_H), fle (J138 x1 sx0 sx1 h) (J138_ x1 sx0 sx1 h)) (mJ188 : ∀ (x1 : Int32) (h : ea_H), fle (J188 x1 h) (J188_ x1 h)) {x1 : Int32} {x2 : Int32} {h : ea_H} : fle (BX12_table_45 J45 J138 J188 x1 x2 h) (BX12_table_45 J45_ J138_ J188_ x1 x2 h) :=
  (fle_ite (fle_ite (mJ188 _ _) (fle_gd (fle_bind (fle_rfl _) fun _ => (fle_gd (fle_let fun _ => (fle_gd (fle_ite (mJ138 _ _ _ _) (mJ138 _ _ _ _)))))))) (fle_bind (fle_rfl _) fun _ => (fle_ite (mJ45 _ _ _) (fle_ite (mJ45 _ _ _) (fle_bind (fle_rfl _) fun _ => (fle_ite (mJ45 _ _ _) (mJ45 _ _ _)))))))
set_option maxRecDepth 100000 in
set_option maxHeartbeats 0 in
theorem nBX12_table_45 {J45 : Int32 → Int32 → ea_H → Option (Unit × ea_H)} {J138 : Int32 → Int32 → Int32 → ea_H → Option (Unit × ea_H)} {J188 : Int32 → ea_H → Option (Unit × ea_H)} {J45_ : Nat → (Int32 → Int32 → ea_H → Option (Unit × ea_H))} {J138_ : Nat → (Int32 → Int32 → Int32 → ea_H → Option (Unit × ea_H))} {J188_ : Nat → (Int32 → ea_H → Option (Unit × ea_H))}  (mJ45 : ∀ (x1 : Int32) (x2 : Int32) (h : ea_H), fct (J45 x1 x2 h) (fun f => J45_ f x1 x2 h)) (mJ138 : ∀ (x1 : Int32) (sx0 : Int32) (sx1 : Int32) (h : ea_H), fct (J138 x1 sx0 sx1 h) (fun f => J138_ f x1 sx0 sx1 h)) (mJ188 : ∀ (x1 : Int32) (h : ea_H), fct (J188 x1 h) (fun f => J188_ f x1 h)) {x1 : Int32} {x2 : Int32} {h : ea_H} : fct (BX12_table_45 J45 J138 J188 x1 x2 h) (fun f => BX12_table_45 (J45_ f) (J138_ f) (J188_ f) x1 x2 h) :=
  (fct_ite (fct_ite (mJ188 _ _) (fct_gd (fct_bind (fct_rfl _) fun _ => (fct_gd (fct_let fun _ => (fct_gd (fct_ite (mJ138 _ _ _ _) (mJ138 _ _ _ _)))))))) (fct_bind (fct_rfl _) fun _ => (fct_ite (mJ45 _ _ _) (fct_ite (mJ45 _ _ _) (fct_bind (fct_rfl _) fun _ => (fct_ite (mJ45 _ _ _) (mJ45 _ _ _)))))))
noncomputable def BX12_table_138 (J188 : Int32 → ea_H → Option (Unit × ea_H)) (x1 : Int32) (sx0 : Int32) (sx1 : Int32) (h : ea_H) : Option (Unit × ea_H) :=
  (gd (vp_in sx1 1000) (ea_let (ea_wi h 337 (Int32.toNatClampNeg sx1) sx0) fun H21 => (gd (vp_in (ea_i H21 326 13) 1000) (ea_let (ea_wi H21 338 (Int32.toNatClampNeg (ea_i H21 326 13)) x1) fun H23 => (gd (vp_in x1 70) (gd (vp_in (ea_i H23 326 13) 1000) (ea_let (ea_wi H23 339 (Int32.toNatClampNeg (ea_i H23 326 13)) (((ea_i H23 340 (Int32.toNatClampNeg x1)) + (1 : Int32)) / (2 : Int32))) fun H26 => (ea_let (ea_wi H26 326 13 ((ea_i H26 326 13) + (1 : Int32))) fun H27 => (gd (vp_in x1 70) (gd (vp_in x1 70) (ea_let (ea_wi H27 340 (Int32.toNatClampNeg x1) ((ea_i H27 340 (Int32.toNatClampNeg x1)) + (1 : Int32))) fun H30 => (J188 (x1 : Int32) H30))))))))))))
set_option maxRecDepth 100000 in
set_option maxHeartbeats 0 in
theorem tBX12_table_138 {d : Nat} {h0 : ea_H} (hd : 4 ≤ d) {J188 : Int32 → ea_H → Option (Unit × ea_H)}  (kJ188 : ∀ (x1 : Int32) (h : ea_H) (r : Unit) (h' : ea_H), J188 x1 h = some (r, h') → ShM h → ea_W mX12_table d h0 none h' 188 [(0, vR (some 326)), (1, vI x1)] [] h) {x1 : Int32} {sx0 : Int32} {sx1 : Int32} {h : ea_H} {r : Unit} {h' : ea_H} (E : BX12_table_138 J188 x1 sx0 sx1 h = some (r, h')) (hs : ShM h) : ea_W mX12_table d h0 none h' 138 [(0, vR (some 326)), (1, vI x1)] [vI sx0, vI sx1, vR (some 337)] h := by
  unfold BX12_table_138 at E
  obtain ⟨z20, E⟩ := gd_some E
  obtain ⟨H21, eH21, E⟩ := let_some E
  refine ea_iast (pc := 138) dX12_table_138 (cShM_337 hs).1 (cShM_337 hs).2.1 (ea_vpl (cShM_337 hs).2.2 z20) ?_
  refine ea_nm eH21 ?_
  have hsH21 : ShM H21 := by rw [eH21]; exact hs
  obtain ⟨z22, E⟩ := gd_some E
  refine ea_aload_n (pc := 139) dX12_table_139 rfl 0 rfl ?_
  refine ea_getR (pc := 140) dX12_table_140 ec_12 (k := 16) (Nat.le_of_ble_eq_true rfl) rfl (Or.inl ew_1418) (cShM_326 hsH21).1 (cShM_326 hsH21).2.1 (rShM_326_16 hsH21) ?_
  refine ea_aload_n (pc := 143) dX12_table_143 rfl 0 rfl ?_
  refine ea_getI (pc := 144) dX12_table_144 ec_12 (k := 13) (Nat.le_of_ble_eq_true rfl) rfl (Or.inl ew_1415) (cShM_326 hsH21).1 (cShM_326 hsH21).2.1 ?_
  refine ea_iload_n (pc := 147) dX12_table_147 rfl 1 rfl ?_
  obtain ⟨H23, eH23, E⟩ := let_some E
  refine ea_iast (pc := 148) dX12_table_148 (cShM_338 hsH21).1 (cShM_338 hsH21).2.1 (ea_vpl (cShM_338 hsH21).2.2 z22) ?_
  refine ea_nm eH23 ?_
  have hsH23 : ShM H23 := by rw [eH23]; exact hsH21
  obtain ⟨z24, E⟩ := gd_some E
  refine ea_aload_n (pc := 149) dX12_table_149 rfl 0 rfl ?_
  refine ea_getR (pc := 150) dX12_table_150 ec_12 (k := 17) (Nat.le_of_ble_eq_true rfl) rfl (Or.inl ew_1419) (cShM_326 hsH23).1 (cShM_326 hsH23).2.1 (rShM_326_17 hsH23) ?_
  refine ea_aload_n (pc := 153) dX12_table_153 rfl 0 rfl ?_
  refine ea_getI (pc := 154) dX12_table_154 ec_12 (k := 13) (Nat.le_of_ble_eq_true rfl) rfl (Or.inl ew_1415) (cShM_326 hsH23).1 (cShM_326 hsH23).2.1 ?_
  refine ea_aload_n (pc := 157) dX12_table_157 rfl 0 rfl ?_
  refine ea_getR (pc := 158) dX12_table_158 ec_12 (k := 18) (Nat.le_of_ble_eq_true rfl) rfl (Or.inl ew_1420) (cShM_326 hsH23).1 (cShM_326 hsH23).2.1 (rShM_326_18 hsH23) ?_
  refine ea_iload_n (pc := 161) dX12_table_161 rfl 1 rfl ?_
  obtain ⟨z25, E⟩ := gd_some E
  refine ea_iald (pc := 162) dX12_table_162 (cShM_340 hsH23).1 (cShM_340 hsH23).2.1 (ea_vpl (cShM_340 hsH23).2.2 z24) ?_
  refine ea_iconst (pc := 163) dX12_table_163 (v := 1) rfl ?_
  refine ea_iadd (pc := 164) dX12_table_164 ?_
  refine ea_iconst (pc := 165) dX12_table_165 (v := 2) rfl ?_
  refine ea_idiv (pc := 166) dX12_table_166 (by decide) ?_
  obtain ⟨H26, eH26, E⟩ := let_some E
  refine ea_iast (pc := 167) dX12_table_167 (cShM_339 hsH23).1 (cShM_339 hsH23).2.1 (ea_vpl (cShM_339 hsH23).2.2 z25) ?_
  refine ea_nm eH26 ?_
  have hsH26 : ShM H26 := by rw [eH26]; exact hsH23
  obtain ⟨H27, eH27, E⟩ := let_some E
  refine ea_aload_n (pc := 168) dX12_table_168 rfl 0 rfl ?_
  refine ea_dup (pc := 169) dX12_table_169 rfl ?_
  refine ea_getI (pc := 170) dX12_table_170 ec_12 (k := 13) (Nat.le_of_ble_eq_true rfl) rfl (Or.inl ew_1415) (cShM_326 hsH26).1 (cShM_326 hsH26).2.1 ?_
  refine ea_iconst (pc := 173) dX12_table_173 (v := 1) rfl ?_
  refine ea_iadd (pc := 174) dX12_table_174 ?_
  refine ea_putI (pc := 175) dX12_table_175 ec_12 (k := 13) (Nat.le_of_ble_eq_true rfl) rfl (Or.inl ⟨rfl, Or.inl ew_1415⟩) rfl rfl (cShM_326 hsH26).1 (cShM_326 hsH26).2.1 ?_
  refine ea_nm eH27 ?_
  have hsH27 : ShM H27 := by rw [eH27]; exact hsH26
  obtain ⟨z28, E⟩ := gd_some E
  refine ea_aload_n (pc := 178) dX12_table_178 rfl 0 rfl ?_
  refine ea_getR (pc := 179) dX12_table_179 ec_12 (k := 18) (Nat.le_of_ble_eq_true rfl) rfl (Or.inl ew_1420) (cShM_326 hsH27).1 (cShM_326 hsH27).2.1 (rShM_326_18 hsH27) ?_
  refine ea_iload_n (pc := 182) dX12_table_182 rfl 1 rfl ?_
  refine ea_dup2 (pc := 183) dX12_table_183 rfl rfl ?_
  obtain ⟨z29, E⟩ := gd_some E
  refine ea_iald (pc := 184) dX12_table_184 (cShM_340 hsH27).1 (cShM_340 hsH27).2.1 (ea_vpl (cShM_340 hsH27).2.2 z28) ?_
  refine ea_iconst (pc := 185) dX12_table_185 (v := 1) rfl ?_
  refine ea_iadd (pc := 186) dX12_table_186 ?_
  obtain ⟨H30, eH30, E⟩ := let_some E
  refine ea_iast (pc := 187) dX12_table_187 (cShM_340 hsH27).1 (cShM_340 hsH27).2.1 (ea_vpl (cShM_340 hsH27).2.2 z29) ?_
  refine ea_nm eH30 ?_
  have hsH30 : ShM H30 := by rw [eH30]; exact hsH27
  exact (kJ188 (x1 : Int32) H30 _ _ E hsH30)
set_option maxRecDepth 100000 in
set_option maxHeartbeats 0 in
theorem kBX12_table_138 {J188 : Int32 → ea_H → Option (Unit × ea_H)}  (cJ188 : ∀ (x1 : Int32) (h : ea_H), kp (ea_core h) (J188 x1 h)) {x1 : Int32} {sx0 : Int32} {sx1 : Int32} {h : ea_H} : kp (ea_core h) (BX12_table_138 J188 x1 sx0 sx1 h) :=
  (kp_gd (kp_let (kp_gd (kp_let (kp_gd (kp_gd (kp_let (kp_let (kp_gd (kp_gd (kp_let (kp_tw (cJ188 _ _) rfl))))))))))))
set_option maxRecDepth 100000 in
set_option maxHeartbeats 0 in
theorem lBX12_table_138 {J188 : Int32 → ea_H → Option (Unit × ea_H)} {J188_ : Int32 → ea_H → Option (Unit × ea_H)}  (mJ188 : ∀ (x1 : Int32) (h : ea_H), fle (J188 x1 h) (J188_ x1 h)) {x1 : Int32} {sx0 : Int32} {sx1 : Int32} {h : ea_H} : fle (BX12_table_138 J188 x1 sx0 sx1 h) (BX12_table_138 J188_ x1 sx0 sx1 h) :=
  (fle_gd (fle_let fun _ => (fle_gd (fle_let fun _ => (fle_gd (fle_gd (fle_let fun _ => (fle_let fun _ => (fle_gd (fle_gd (fle_let fun _ => (mJ188 _ _))))))))))))
set_option maxRecDepth 100000 in
set_option maxHeartbeats 0 in
theorem nBX12_table_138 {J188 : Int32 → ea_H → Option (Unit × ea_H)} {J188_ : Nat → (Int32 → ea_H → Option (Unit × ea_H))}  (mJ188 : ∀ (x1 : Int32) (h : ea_H), fct (J188 x1 h) (fun f => J188_ f x1 h)) {x1 : Int32} {sx0 : Int32} {sx1 : Int32} {h : ea_H} : fct (BX12_table_138 J188 x1 sx0 sx1 h) (fun f => BX12_table_138 (J188_ f) x1 sx0 sx1 h) :=
  (fct_gd (fct_let fun _ => (fct_gd (fct_let fun _ => (fct_gd (fct_gd (fct_let fun _ => (fct_let fun _ => (fct_gd (fct_gd (fct_let fun _ => (mJ188 _ _))))))))))))
noncomputable def BX12_table_188 (J41 : ea_H → Option (Unit × ea_H)) (J195 : Int32 → ea_H → Option (Unit × ea_H)) (x1 : Int32) (h : ea_H) : Option (Unit × ea_H) :=
  (if x1 = ((-1) : Int32) then (J195 (0 : Int32) h) else (J41 h))
set_option maxRecDepth 100000 in
set_option maxHeartbeats 0 in
theorem tBX12_table_188 {d : Nat} {h0 : ea_H} (hd : 4 ≤ d) {J41 : ea_H → Option (Unit × ea_H)} {J195 : Int32 → ea_H → Option (Unit × ea_H)}  (kJ41 : ∀ (h : ea_H) (r : Unit) (h' : ea_H), J41 h = some (r, h') → ShM h → ea_W mX12_table d h0 none h' 41 [(0, vR (some 326))] [] h) (kJ195 : ∀ (x2 : Int32) (h : ea_H) (r : Unit) (h' : ea_H), J195 x2 h = some (r, h') → ShM h → ea_W mX12_table d h0 none h' 195 [(0, vR (some 326)), (2, vI x2)] [] h) {x1 : Int32} {h : ea_H} {r : Unit} {h' : ea_H} (E : BX12_table_188 J41 J195 x1 h = some (r, h')) (hs : ShM h) : ea_W mX12_table d h0 none h' 188 [(0, vR (some 326)), (1, vI x1)] [] h := by
  unfold BX12_table_188 at E
  refine ea_iload_n (pc := 188) dX12_table_188 rfl 1 rfl ?_
  refine ea_iconst (pc := 189) dX12_table_189 (v := (-1)) rfl ?_
  refine ea_icmp_ne (pc := 190) (tgt := 41) dX12_table_190 rfl (fun c31 => ?_) (fun c31 => ?_)
  · have E := (if_neg c31).symm.trans E
    exact ea_fewer [0] rfl (kJ41 h _ _ E hs)
  · have E := (if_pos c31).symm.trans E
    refine ea_iconst (pc := 193) dX12_table_193 (v := 0) rfl ?_
    refine ea_istore_n (pc := 194) (lv' := [(0, vR (some 326)), (2, vI 0)]) dX12_table_194 rfl (Nat.le_of_ble_eq_true rfl) [1, 0] rfl ?_
    exact (kJ195 (0 : Int32) h _ _ E hs)
set_option maxRecDepth 100000 in
set_option maxHeartbeats 0 in
theorem kBX12_table_188 {J41 : ea_H → Option (Unit × ea_H)} {J195 : Int32 → ea_H → Option (Unit × ea_H)}  (cJ41 : ∀ (h : ea_H), kp (ea_core h) (J41 h)) (cJ195 : ∀ (x2 : Int32) (h : ea_H), kp (ea_core h) (J195 x2 h)) {x1 : Int32} {h : ea_H} : kp (ea_core h) (BX12_table_188 J41 J195 x1 h) :=
  (kp_ite (kp_tw (cJ195 _ _) rfl) (kp_tw (cJ41 _) rfl))
set_option maxRecDepth 100000 in
set_option maxHeartbeats 0 in
theorem lBX12_table_188 {J41 : ea_H → Option (Unit × ea_H)} {J195 : Int32 → ea_H → Option (Unit × ea_H)} {J41_ : ea_H → Option (Unit × ea_H)} {J195_ : Int32 → ea_H → Option (Unit × ea_H)}  (mJ41 : ∀ (h : ea_H), fle (J41 h) (J41_ h)) (mJ195 : ∀ (x2 : Int32) (h : ea_H), fle (J195 x2 h) (J195_ x2 h)) {x1 : Int32} {h : ea_H} : fle (BX12_table_188 J41 J195 x1 h) (BX12_table_188 J41_ J195_ x1 h) :=
  (fle_ite (mJ195 _ _) (mJ41 _))
set_option maxRecDepth 100000 in
set_option maxHeartbeats 0 in
theorem nBX12_table_188 {J41 : ea_H → Option (Unit × ea_H)} {J195 : Int32 → ea_H → Option (Unit × ea_H)} {J41_ : Nat → (ea_H → Option (Unit × ea_H))} {J195_ : Nat → (Int32 → ea_H → Option (Unit × ea_H))}  (mJ41 : ∀ (h : ea_H), fct (J41 h) (fun f => J41_ f h)) (mJ195 : ∀ (x2 : Int32) (h : ea_H), fct (J195 x2 h) (fun f => J195_ f x2 h)) {x1 : Int32} {h : ea_H} : fct (BX12_table_188 J41 J195 x1 h) (fun f => BX12_table_188 (J41_ f) (J195_ f) x1 h) :=
  (fct_ite (mJ195 _ _) (mJ41 _))
noncomputable def BX12_table_195 (J195 : Int32 → ea_H → Option (Unit × ea_H)) (J221 : Int32 → ea_H → Option (Unit × ea_H)) (x2 : Int32) (h : ea_H) : Option (Unit × ea_H) :=
  (if (12 : Int32) ≤ x2 then (ea_let ((ea_i h 326 13) - (1 : Int32)) fun (v32 : Int32) => (J221 (v32 : Int32) h)) else (gd (vp_in x2 12) (ea_let (ea_wi h 346 (Int32.toNatClampNeg x2) (-1)) fun H34 => (J195 ((x2 + (1 : Int32)) : Int32) H34))))
set_option maxRecDepth 100000 in
set_option maxHeartbeats 0 in
theorem tBX12_table_195 {d : Nat} {h0 : ea_H} (hd : 4 ≤ d) {J195 : Int32 → ea_H → Option (Unit × ea_H)} {J221 : Int32 → ea_H → Option (Unit × ea_H)}  (kJ195 : ∀ (x2 : Int32) (h : ea_H) (r : Unit) (h' : ea_H), J195 x2 h = some (r, h') → ShM h → ea_W mX12_table d h0 none h' 195 [(0, vR (some 326)), (2, vI x2)] [] h) (kJ221 : ∀ (x2 : Int32) (h : ea_H) (r : Unit) (h' : ea_H), J221 x2 h = some (r, h') → ShM h → ea_W mX12_table d h0 none h' 221 [(0, vR (some 326)), (2, vI x2)] [] h) {x2 : Int32} {h : ea_H} {r : Unit} {h' : ea_H} (E : BX12_table_195 J195 J221 x2 h = some (r, h')) (hs : ShM h) : ea_W mX12_table d h0 none h' 195 [(0, vR (some 326)), (2, vI x2)] [] h := by
  unfold BX12_table_195 at E
  refine ea_iload_n (pc := 195) dX12_table_195 rfl 1 rfl ?_
  refine ea_bipush (pc := 196) dX12_table_196 (v := 12) rfl ?_
  refine ea_icmp_ge (pc := 198) (tgt := 214) dX12_table_198 rfl (fun c35 => ?_) (fun c35 => ?_)
  · have E := (if_pos c35).symm.trans E
    obtain ⟨v32, ev32, E⟩ := let_some E
    refine ea_aload_n (pc := 214) dX12_table_214 rfl 0 rfl ?_
    refine ea_getI (pc := 215) dX12_table_215 ec_12 (k := 13) (Nat.le_of_ble_eq_true rfl) rfl (Or.inl ew_1415) (cShM_326 hs).1 (cShM_326 hs).2.1 ?_
    refine ea_iconst (pc := 218) dX12_table_218 (v := 1) rfl ?_
    refine ea_isub (pc := 219) dX12_table_219 ?_
    refine ea_istore_n (pc := 220) (lv' := [(0, vR (some 326)), (2, vI v32)]) dX12_table_220 rfl (Nat.le_of_ble_eq_true rfl) [1, 0] (by rw [ev32]; rfl) ?_
    exact (kJ221 (v32 : Int32) h _ _ E hs)
  · have E := (if_neg c35).symm.trans E
    obtain ⟨z33, E⟩ := gd_some E
    refine ea_aload_n (pc := 201) dX12_table_201 rfl 0 rfl ?_
    refine ea_getR (pc := 202) dX12_table_202 ec_12 (k := 24) (Nat.le_of_ble_eq_true rfl) rfl (Or.inl ew_1426) (cShM_326 hs).1 (cShM_326 hs).2.1 (rShM_326_24 hs) ?_
    refine ea_iload_n (pc := 205) dX12_table_205 rfl 1 rfl ?_
    refine ea_iconst (pc := 206) dX12_table_206 (v := (-1)) rfl ?_
    obtain ⟨H34, eH34, E⟩ := let_some E
    refine ea_iast (pc := 207) dX12_table_207 (cShM_346 hs).1 (cShM_346 hs).2.1 (ea_vpl (cShM_346 hs).2.2 z33) ?_
    refine ea_nm eH34 ?_
    have hsH34 : ShM H34 := by rw [eH34]; exact hs
    refine ea_iinc (pc := 208) (v := 1) (lv' := [(0, vR (some 326)), (2, vI (x2 + (1 : Int32)))]) dX12_table_208 1 rfl rfl (Nat.le_of_ble_eq_true rfl) [1, 0] rfl ?_
    refine ea_goto (pc := 211) (tgt := 195) dX12_table_211 rfl ?_
    exact (kJ195 ((x2 + (1 : Int32)) : Int32) H34 _ _ E hsH34)
set_option maxRecDepth 100000 in
set_option maxHeartbeats 0 in
theorem kBX12_table_195 {J195 : Int32 → ea_H → Option (Unit × ea_H)} {J221 : Int32 → ea_H → Option (Unit × ea_H)}  (cJ195 : ∀ (x2 : Int32) (h : ea_H), kp (ea_core h) (J195 x2 h)) (cJ221 : ∀ (x2 : Int32) (h : ea_H), kp (ea_core h) (J221 x2 h)) {x2 : Int32} {h : ea_H} : kp (ea_core h) (BX12_table_195 J195 J221 x2 h) :=
  (kp_ite (kp_let (kp_tw (cJ221 _ _) rfl)) (kp_gd (kp_let (kp_tw (cJ195 _ _) rfl))))
set_option maxRecDepth 100000 in
set_option maxHeartbeats 0 in
theorem lBX12_table_195 {J195 : Int32 → ea_H → Option (Unit × ea_H)} {J221 : Int32 → ea_H → Option (Unit × ea_H)} {J195_ : Int32 → ea_H → Option (Unit × ea_H)} {J221_ : Int32 → ea_H → Option (Unit × ea_H)}  (mJ195 : ∀ (x2 : Int32) (h : ea_H), fle (J195 x2 h) (J195_ x2 h)) (mJ221 : ∀ (x2 : Int32) (h : ea_H), fle (J221 x2 h) (J221_ x2 h)) {x2 : Int32} {h : ea_H} : fle (BX12_table_195 J195 J221 x2 h) (BX12_table_195 J195_ J221_ x2 h) :=
  (fle_ite (fle_let fun _ => (mJ221 _ _)) (fle_gd (fle_let fun _ => (mJ195 _ _))))
set_option maxRecDepth 100000 in
set_option maxHeartbeats 0 in
theorem nBX12_table_195 {J195 : Int32 → ea_H → Option (Unit × ea_H)} {J221 : Int32 → ea_H → Option (Unit × ea_H)} {J195_ : Nat → (Int32 → ea_H → Option (Unit × ea_H))} {J221_ : Nat → (Int32 → ea_H → Option (Unit × ea_H))}  (mJ195 : ∀ (x2 : Int32) (h : ea_H), fct (J195 x2 h) (fun f => J195_ f x2 h)) (mJ221 : ∀ (x2 : Int32) (h : ea_H), fct (J221 x2 h) (fun f => J221_ f x2 h)) {x2 : Int32} {h : ea_H} : fct (BX12_table_195 J195 J221 x2 h) (fun f => BX12_table_195 (J195_ f) (J221_ f) x2 h) :=
  (fct_ite (fct_let fun _ => (mJ221 _ _)) (fct_gd (fct_let fun _ => (mJ195 _ _))))
noncomputable def BX12_table_221 (J221 : Int32 → ea_H → Option (Unit × ea_H)) (x2 : Int32) (h : ea_H) : Option (Unit × ea_H) :=
  (if x2 < (0 : Int32) then (some ((), h)) else (gd (vp_in x2 1000) (if (ea_i h 337 (Int32.toNatClampNeg x2)) = (1 : Int32) then (Option.bind (qX12_goings (x2 : Int32) h) fun w37 => (J221 ((x2 + ((-1) : Int32)) : Int32) w37.2)) else (J221 ((x2 + ((-1) : Int32)) : Int32) h))))
set_option maxRecDepth 100000 in
set_option maxHeartbeats 0 in
theorem tBX12_table_221 {d : Nat} {h0 : ea_H} (hd : 4 ≤ d) {J221 : Int32 → ea_H → Option (Unit × ea_H)}  (kJ221 : ∀ (x2 : Int32) (h : ea_H) (r : Unit) (h' : ea_H), J221 x2 h = some (r, h') → ShM h → ea_W mX12_table d h0 none h' 221 [(0, vR (some 326)), (2, vI x2)] [] h) {x2 : Int32} {h : ea_H} {r : Unit} {h' : ea_H} (E : BX12_table_221 J221 x2 h = some (r, h')) (hs : ShM h) : ea_W mX12_table d h0 none h' 221 [(0, vR (some 326)), (2, vI x2)] [] h := by
  unfold BX12_table_221 at E
  refine ea_iload_n (pc := 221) dX12_table_221 rfl 1 rfl ?_
  refine ea_if_lt (pc := 222) (tgt := 246) dX12_table_222 rfl (fun c39 => ?_) (fun c39 => ?_)
  · have E := (if_pos c39).symm.trans E
    exact ea_vretO (pc := 246) dX12_table_246 rfl E
  · have E := (if_neg c39).symm.trans E
    obtain ⟨z36, E⟩ := gd_some E
    refine ea_aload_n (pc := 225) dX12_table_225 rfl 0 rfl ?_
    refine ea_getR (pc := 226) dX12_table_226 ec_12 (k := 15) (Nat.le_of_ble_eq_true rfl) rfl (Or.inl ew_1417) (cShM_326 hs).1 (cShM_326 hs).2.1 (rShM_326_15 hs) ?_
    refine ea_iload_n (pc := 229) dX12_table_229 rfl 1 rfl ?_
    refine ea_iald (pc := 230) dX12_table_230 (cShM_337 hs).1 (cShM_337 hs).2.1 (ea_vpl (cShM_337 hs).2.2 z36) ?_
    refine ea_iconst (pc := 231) dX12_table_231 (v := 1) rfl ?_
    refine ea_icmp_ne (pc := 232) (tgt := 240) dX12_table_232 rfl (fun c38 => ?_) (fun c38 => ?_)
    · have E := (if_neg c38).symm.trans E
      refine ea_iinc (pc := 240) (v := (-1)) (lv' := [(0, vR (some 326)), (2, vI (x2 + ((-1) : Int32)))]) dX12_table_240 1 rfl rfl (Nat.le_of_ble_eq_true rfl) [1, 0] rfl ?_
      refine ea_goto (pc := 243) (tgt := 221) dX12_table_243 rfl ?_
      exact (kJ221 ((x2 + ((-1) : Int32)) : Int32) h _ _ E hs)
    · have E := (if_pos c38).symm.trans E
      obtain ⟨w37, Ew37, E⟩ := bd_some E
      have hsw37 : ShM w37.2 := ShM_core ((kpX12_goings _ _) _ Ew37) hs
      refine ea_aload_n (pc := 235) dX12_table_235 rfl 0 rfl ?_
      refine ea_iload_n (pc := 236) dX12_table_236 rfl 1 rfl ?_
      refine ea_callV (pc := 237) (d' := d - 1) (As := [vI x2]) (st := []) dX12_table_237 kX12_goings (sX12_goings (d := d - 1) (by omega) hs Ew37) (by omega) rfl (Nat.le_of_ble_eq_true rfl) ew_1851 ew_1853 ew_66 (ci := 12) rfl (by decide) (cShM_326 hs).1 (cShM_326 hs).2.1 ?_
      refine ea_iinc (pc := 240) (v := (-1)) (lv' := [(0, vR (some 326)), (2, vI (x2 + ((-1) : Int32)))]) dX12_table_240 1 rfl rfl (Nat.le_of_ble_eq_true rfl) [1, 0] rfl ?_
      refine ea_goto (pc := 243) (tgt := 221) dX12_table_243 rfl ?_
      exact (kJ221 ((x2 + ((-1) : Int32)) : Int32) w37.2 _ _ E hsw37)
set_option maxRecDepth 100000 in
set_option maxHeartbeats 0 in
theorem kBX12_table_221 {J221 : Int32 → ea_H → Option (Unit × ea_H)}  (cJ221 : ∀ (x2 : Int32) (h : ea_H), kp (ea_core h) (J221 x2 h)) {x2 : Int32} {h : ea_H} : kp (ea_core h) (BX12_table_221 J221 x2 h) :=
  (kp_ite (kp_ret rfl) (kp_gd (kp_ite (kp_bind (kp_tw (kpX12_goings _ _) rfl) fun w37 hcw37 => (kp_tw (cJ221 _ _) hcw37)) (kp_tw (cJ221 _ _) rfl))))
set_option maxRecDepth 100000 in
set_option maxHeartbeats 0 in
theorem lBX12_table_221 {J221 : Int32 → ea_H → Option (Unit × ea_H)} {J221_ : Int32 → ea_H → Option (Unit × ea_H)}  (mJ221 : ∀ (x2 : Int32) (h : ea_H), fle (J221 x2 h) (J221_ x2 h)) {x2 : Int32} {h : ea_H} : fle (BX12_table_221 J221 x2 h) (BX12_table_221 J221_ x2 h) :=
  (fle_ite (fle_rfl _) (fle_gd (fle_ite (fle_bind (fle_rfl _) fun _ => (mJ221 _ _)) (mJ221 _ _))))
set_option maxRecDepth 100000 in
set_option maxHeartbeats 0 in
theorem nBX12_table_221 {J221 : Int32 → ea_H → Option (Unit × ea_H)} {J221_ : Nat → (Int32 → ea_H → Option (Unit × ea_H))}  (mJ221 : ∀ (x2 : Int32) (h : ea_H), fct (J221 x2 h) (fun f => J221_ f x2 h)) {x2 : Int32} {h : ea_H} : fct (BX12_table_221 J221 x2 h) (fun f => BX12_table_221 (J221_ f) x2 h) :=
  (fct_ite (fct_rfl _) (fct_gd (fct_ite (fct_bind (fct_rfl _) fun _ => (mJ221 _ _)) (mJ221 _ _))))
noncomputable def gX12_table : Nat → (ea_H → Option (Unit × ea_H)) × (Int32 → ea_H → Option (Unit × ea_H)) × (ea_H → Option (Unit × ea_H)) × (Int32 → Int32 → ea_H → Option (Unit × ea_H)) × (Int32 → Int32 → Int32 → ea_H → Option (Unit × ea_H)) × (Int32 → ea_H → Option (Unit × ea_H)) × (Int32 → ea_H → Option (Unit × ea_H)) × (Int32 → ea_H → Option (Unit × ea_H))
  | 0 => (fun _ => none, fun _ _ => none, fun _ => none, fun _ _ _ => none, fun _ _ _ _ => none, fun _ _ => none, fun _ _ => none, fun _ _ => none)
  | f + 1 => (BX12_table_0 (gX12_table f).2.1, BX12_table_20 (gX12_table f).2.1 (gX12_table f).2.2.1, BX12_table_41 (gX12_table f).2.2.2.1, BX12_table_45 (gX12_table f).2.2.2.1 (gX12_table f).2.2.2.2.1 (gX12_table f).2.2.2.2.2.1, BX12_table_138 (gX12_table f).2.2.2.2.2.1, BX12_table_188 (gX12_table f).2.2.1 (gX12_table f).2.2.2.2.2.2.1, BX12_table_195 (gX12_table f).2.2.2.2.2.2.1 (gX12_table f).2.2.2.2.2.2.2, BX12_table_221 (gX12_table f).2.2.2.2.2.2.2)
theorem mgX12_table : ∀ f : Nat, (∀ (h : ea_H), fle ((gX12_table f).1 h) ((gX12_table (f + 1)).1 h)) ∧ (∀ (x1 : Int32) (h : ea_H), fle ((gX12_table f).2.1 x1 h) ((gX12_table (f + 1)).2.1 x1 h)) ∧ (∀ (h : ea_H), fle ((gX12_table f).2.2.1 h) ((gX12_table (f + 1)).2.2.1 h)) ∧ (∀ (x1 : Int32) (x2 : Int32) (h : ea_H), fle ((gX12_table f).2.2.2.1 x1 x2 h) ((gX12_table (f + 1)).2.2.2.1 x1 x2 h)) ∧ (∀ (x1 : Int32) (sx0 : Int32) (sx1 : Int32) (h : ea_H), fle ((gX12_table f).2.2.2.2.1 x1 sx0 sx1 h) ((gX12_table (f + 1)).2.2.2.2.1 x1 sx0 sx1 h)) ∧ (∀ (x1 : Int32) (h : ea_H), fle ((gX12_table f).2.2.2.2.2.1 x1 h) ((gX12_table (f + 1)).2.2.2.2.2.1 x1 h)) ∧ (∀ (x2 : Int32) (h : ea_H), fle ((gX12_table f).2.2.2.2.2.2.1 x2 h) ((gX12_table (f + 1)).2.2.2.2.2.2.1 x2 h)) ∧ (∀ (x2 : Int32) (h : ea_H), fle ((gX12_table f).2.2.2.2.2.2.2 x2 h) ((gX12_table (f + 1)).2.2.2.2.2.2.2 x2 h)) := by
  intro f
  induction f with
  | zero => exact ⟨fun _ => fle_none _, fun _ _ => fle_none _, fun _ => fle_none _, fun _ _ _ => fle_none _, fun _ _ _ _ => fle_none _, fun _ _ => fle_none _, fun _ _ => fle_none _, fun _ _ => fle_none _⟩
  | succ f ih => exact ⟨fun _ => lBX12_table_0 ih.2.1, fun _ _ => lBX12_table_20 ih.2.1 ih.2.2.1, fun _ => lBX12_table_41 ih.2.2.2.1, fun _ _ _ => lBX12_table_45 ih.2.2.2.1 ih.2.2.2.2.1 ih.2.2.2.2.2.1, fun _ _ _ _ => lBX12_table_138 ih.2.2.2.2.2.1, fun _ _ => lBX12_table_188 ih.2.2.1 ih.2.2.2.2.2.2.1, fun _ _ => lBX12_table_195 ih.2.2.2.2.2.2.1 ih.2.2.2.2.2.2.2, fun _ _ => lBX12_table_221 ih.2.2.2.2.2.2.2⟩
noncomputable def qX12_table_0 (h : ea_H) : Option (Unit × ea_H) := flim fun f => (gX12_table f).1 h
noncomputable def qX12_table_20 (x1 : Int32) (h : ea_H) : Option (Unit × ea_H) := flim fun f => (gX12_table f).2.1 x1 h
noncomputable def qX12_table_41 (h : ea_H) : Option (Unit × ea_H) := flim fun f => (gX12_table f).2.2.1 h
noncomputable def qX12_table_45 (x1 : Int32) (x2 : Int32) (h : ea_H) : Option (Unit × ea_H) := flim fun f => (gX12_table f).2.2.2.1 x1 x2 h
noncomputable def qX12_table_138 (x1 : Int32) (sx0 : Int32) (sx1 : Int32) (h : ea_H) : Option (Unit × ea_H) := flim fun f => (gX12_table f).2.2.2.2.1 x1 sx0 sx1 h
noncomputable def qX12_table_188 (x1 : Int32) (h : ea_H) : Option (Unit × ea_H) := flim fun f => (gX12_table f).2.2.2.2.2.1 x1 h
noncomputable def qX12_table_195 (x2 : Int32) (h : ea_H) : Option (Unit × ea_H) := flim fun f => (gX12_table f).2.2.2.2.2.2.1 x2 h
noncomputable def qX12_table_221 (x2 : Int32) (h : ea_H) : Option (Unit × ea_H) := flim fun f => (gX12_table f).2.2.2.2.2.2.2 x2 h
theorem fqX12_table_0 (h : ea_H) : fct (qX12_table_0 h) fun f => (gX12_table f).1 h := flim_ct fun f => (mgX12_table f).1 h
theorem fqX12_table_20 (x1 : Int32) (h : ea_H) : fct (qX12_table_20 x1 h) fun f => (gX12_table f).2.1 x1 h := flim_ct fun f => (mgX12_table f).2.1 x1 h
theorem fqX12_table_41 (h : ea_H) : fct (qX12_table_41 h) fun f => (gX12_table f).2.2.1 h := flim_ct fun f => (mgX12_table f).2.2.1 h
theorem fqX12_table_45 (x1 : Int32) (x2 : Int32) (h : ea_H) : fct (qX12_table_45 x1 x2 h) fun f => (gX12_table f).2.2.2.1 x1 x2 h := flim_ct fun f => (mgX12_table f).2.2.2.1 x1 x2 h
theorem fqX12_table_138 (x1 : Int32) (sx0 : Int32) (sx1 : Int32) (h : ea_H) : fct (qX12_table_138 x1 sx0 sx1 h) fun f => (gX12_table f).2.2.2.2.1 x1 sx0 sx1 h := flim_ct fun f => (mgX12_table f).2.2.2.2.1 x1 sx0 sx1 h
theorem fqX12_table_188 (x1 : Int32) (h : ea_H) : fct (qX12_table_188 x1 h) fun f => (gX12_table f).2.2.2.2.2.1 x1 h := flim_ct fun f => (mgX12_table f).2.2.2.2.2.1 x1 h
theorem fqX12_table_195 (x2 : Int32) (h : ea_H) : fct (qX12_table_195 x2 h) fun f => (gX12_table f).2.2.2.2.2.2.1 x2 h := flim_ct fun f => (mgX12_table f).2.2.2.2.2.2.1 x2 h
theorem fqX12_table_221 (x2 : Int32) (h : ea_H) : fct (qX12_table_221 x2 h) fun f => (gX12_table f).2.2.2.2.2.2.2 x2 h := flim_ct fun f => (mgX12_table f).2.2.2.2.2.2.2 x2 h
/-- how a block opens -/
theorem uqX12_table_0 {h : ea_H} {P : Unit × ea_H → Prop} (H : sat (BX12_table_0 qX12_table_20 h) P) : sat (qX12_table_0 h) P := by
  obtain ⟨x, e, hp⟩ := H
  obtain ⟨n, hn⟩ := nBX12_table_0 fqX12_table_20 x e
  exact ⟨x, flim_at (fun f => (mgX12_table f).1 h) (f := n + 1) (hn n (Nat.le_refl _)), hp⟩
/-- how a block opens -/
theorem uqX12_table_20 {x1 : Int32} {h : ea_H} {P : Unit × ea_H → Prop} (H : sat (BX12_table_20 qX12_table_20 qX12_table_41 x1 h) P) : sat (qX12_table_20 x1 h) P := by
  obtain ⟨x, e, hp⟩ := H
  obtain ⟨n, hn⟩ := nBX12_table_20 fqX12_table_20 fqX12_table_41 x e
  exact ⟨x, flim_at (fun f => (mgX12_table f).2.1 x1 h) (f := n + 1) (hn n (Nat.le_refl _)), hp⟩
/-- how a block opens -/
theorem uqX12_table_41 {h : ea_H} {P : Unit × ea_H → Prop} (H : sat (BX12_table_41 qX12_table_45 h) P) : sat (qX12_table_41 h) P := by
  obtain ⟨x, e, hp⟩ := H
  obtain ⟨n, hn⟩ := nBX12_table_41 fqX12_table_45 x e
  exact ⟨x, flim_at (fun f => (mgX12_table f).2.2.1 h) (f := n + 1) (hn n (Nat.le_refl _)), hp⟩
/-- how a block opens -/
theorem uqX12_table_45 {x1 : Int32} {x2 : Int32} {h : ea_H} {P : Unit × ea_H → Prop} (H : sat (BX12_table_45 qX12_table_45 qX12_table_138 qX12_table_188 x1 x2 h) P) : sat (qX12_table_45 x1 x2 h) P := by
  obtain ⟨x, e, hp⟩ := H
  obtain ⟨n, hn⟩ := nBX12_table_45 fqX12_table_45 fqX12_table_138 fqX12_table_188 x e
  exact ⟨x, flim_at (fun f => (mgX12_table f).2.2.2.1 x1 x2 h) (f := n + 1) (hn n (Nat.le_refl _)), hp⟩
/-- how a block opens -/
theorem uqX12_table_138 {x1 : Int32} {sx0 : Int32} {sx1 : Int32} {h : ea_H} {P : Unit × ea_H → Prop} (H : sat (BX12_table_138 qX12_table_188 x1 sx0 sx1 h) P) : sat (qX12_table_138 x1 sx0 sx1 h) P := by
  obtain ⟨x, e, hp⟩ := H
  obtain ⟨n, hn⟩ := nBX12_table_138 fqX12_table_188 x e
  exact ⟨x, flim_at (fun f => (mgX12_table f).2.2.2.2.1 x1 sx0 sx1 h) (f := n + 1) (hn n (Nat.le_refl _)), hp⟩
/-- how a block opens -/
theorem uqX12_table_188 {x1 : Int32} {h : ea_H} {P : Unit × ea_H → Prop} (H : sat (BX12_table_188 qX12_table_41 qX12_table_195 x1 h) P) : sat (qX12_table_188 x1 h) P := by
  obtain ⟨x, e, hp⟩ := H
  obtain ⟨n, hn⟩ := nBX12_table_188 fqX12_table_41 fqX12_table_195 x e
  exact ⟨x, flim_at (fun f => (mgX12_table f).2.2.2.2.2.1 x1 h) (f := n + 1) (hn n (Nat.le_refl _)), hp⟩
/-- how a block opens -/
theorem uqX12_table_195 {x2 : Int32} {h : ea_H} {P : Unit × ea_H → Prop} (H : sat (BX12_table_195 qX12_table_195 qX12_table_221 x2 h) P) : sat (qX12_table_195 x2 h) P := by
  obtain ⟨x, e, hp⟩ := H
  obtain ⟨n, hn⟩ := nBX12_table_195 fqX12_table_195 fqX12_table_221 x e
  exact ⟨x, flim_at (fun f => (mgX12_table f).2.2.2.2.2.2.1 x2 h) (f := n + 1) (hn n (Nat.le_refl _)), hp⟩
/-- how a block opens -/
theorem uqX12_table_221 {x2 : Int32} {h : ea_H} {P : Unit × ea_H → Prop} (H : sat (BX12_table_221 qX12_table_221 x2 h) P) : sat (qX12_table_221 x2 h) P := by
  obtain ⟨x, e, hp⟩ := H
  obtain ⟨n, hn⟩ := nBX12_table_221 fqX12_table_221 x e
  exact ⟨x, flim_at (fun f => (mgX12_table f).2.2.2.2.2.2.2 x2 h) (f := n + 1) (hn n (Nat.le_refl _)), hp⟩
theorem kgX12_table : ∀ f : Nat, (∀ (h : ea_H), kp (ea_core h) ((gX12_table f).1 h)) ∧ (∀ (x1 : Int32) (h : ea_H), kp (ea_core h) ((gX12_table f).2.1 x1 h)) ∧ (∀ (h : ea_H), kp (ea_core h) ((gX12_table f).2.2.1 h)) ∧ (∀ (x1 : Int32) (x2 : Int32) (h : ea_H), kp (ea_core h) ((gX12_table f).2.2.2.1 x1 x2 h)) ∧ (∀ (x1 : Int32) (sx0 : Int32) (sx1 : Int32) (h : ea_H), kp (ea_core h) ((gX12_table f).2.2.2.2.1 x1 sx0 sx1 h)) ∧ (∀ (x1 : Int32) (h : ea_H), kp (ea_core h) ((gX12_table f).2.2.2.2.2.1 x1 h)) ∧ (∀ (x2 : Int32) (h : ea_H), kp (ea_core h) ((gX12_table f).2.2.2.2.2.2.1 x2 h)) ∧ (∀ (x2 : Int32) (h : ea_H), kp (ea_core h) ((gX12_table f).2.2.2.2.2.2.2 x2 h)) := by
  intro f
  induction f with
  | zero => exact ⟨fun _ => kp_none _, fun _ _ => kp_none _, fun _ => kp_none _, fun _ _ _ => kp_none _, fun _ _ _ _ => kp_none _, fun _ _ => kp_none _, fun _ _ => kp_none _, fun _ _ => kp_none _⟩
  | succ f ih => exact ⟨fun _ => kBX12_table_0 ih.2.1, fun _ _ => kBX12_table_20 ih.2.1 ih.2.2.1, fun _ => kBX12_table_41 ih.2.2.2.1, fun _ _ _ => kBX12_table_45 ih.2.2.2.1 ih.2.2.2.2.1 ih.2.2.2.2.2.1, fun _ _ _ _ => kBX12_table_138 ih.2.2.2.2.2.1, fun _ _ => kBX12_table_188 ih.2.2.1 ih.2.2.2.2.2.2.1, fun _ _ => kBX12_table_195 ih.2.2.2.2.2.2.1 ih.2.2.2.2.2.2.2, fun _ _ => kBX12_table_221 ih.2.2.2.2.2.2.2⟩
theorem tgX12_table {d : Nat} {h0 : ea_H} (hd : 4 ≤ d) : ∀ f : Nat, (∀ (h : ea_H) (r : Unit) (h' : ea_H), (gX12_table f).1 h = some (r, h') → ShM h → ea_W mX12_table d h0 none h' 0 [(0, vR (some 326))] [] h) ∧ (∀ (x1 : Int32) (h : ea_H) (r : Unit) (h' : ea_H), (gX12_table f).2.1 x1 h = some (r, h') → ShM h → ea_W mX12_table d h0 none h' 20 [(0, vR (some 326)), (1, vI x1)] [] h) ∧ (∀ (h : ea_H) (r : Unit) (h' : ea_H), (gX12_table f).2.2.1 h = some (r, h') → ShM h → ea_W mX12_table d h0 none h' 41 [(0, vR (some 326))] [] h) ∧ (∀ (x1 : Int32) (x2 : Int32) (h : ea_H) (r : Unit) (h' : ea_H), (gX12_table f).2.2.2.1 x1 x2 h = some (r, h') → ShM h → ea_W mX12_table d h0 none h' 45 [(0, vR (some 326)), (1, vI x1), (2, vI x2)] [] h) ∧ (∀ (x1 : Int32) (sx0 : Int32) (sx1 : Int32) (h : ea_H) (r : Unit) (h' : ea_H), (gX12_table f).2.2.2.2.1 x1 sx0 sx1 h = some (r, h') → ShM h → ea_W mX12_table d h0 none h' 138 [(0, vR (some 326)), (1, vI x1)] [vI sx0, vI sx1, vR (some 337)] h) ∧ (∀ (x1 : Int32) (h : ea_H) (r : Unit) (h' : ea_H), (gX12_table f).2.2.2.2.2.1 x1 h = some (r, h') → ShM h → ea_W mX12_table d h0 none h' 188 [(0, vR (some 326)), (1, vI x1)] [] h) ∧ (∀ (x2 : Int32) (h : ea_H) (r : Unit) (h' : ea_H), (gX12_table f).2.2.2.2.2.2.1 x2 h = some (r, h') → ShM h → ea_W mX12_table d h0 none h' 195 [(0, vR (some 326)), (2, vI x2)] [] h) ∧ (∀ (x2 : Int32) (h : ea_H) (r : Unit) (h' : ea_H), (gX12_table f).2.2.2.2.2.2.2 x2 h = some (r, h') → ShM h → ea_W mX12_table d h0 none h' 221 [(0, vR (some 326)), (2, vI x2)] [] h) := by
  intro f
  induction f with
  | zero => exact ⟨fun _ _ _ E => no_some E, fun _ _ _ _ E => no_some E, fun _ _ _ E => no_some E, fun _ _ _ _ _ E => no_some E, fun _ _ _ _ _ _ E => no_some E, fun _ _ _ _ E => no_some E, fun _ _ _ _ E => no_some E, fun _ _ _ _ E => no_some E⟩
  | succ f ih => exact ⟨fun _ _ _ E hs => tBX12_table_0 hd ih.2.1 E hs, fun _ _ _ _ E hs => tBX12_table_20 hd ih.2.1 ih.2.2.1 E hs, fun _ _ _ E hs => tBX12_table_41 hd ih.2.2.2.1 E hs, fun _ _ _ _ _ E hs => tBX12_table_45 hd ih.2.2.2.1 ih.2.2.2.2.1 ih.2.2.2.2.2.1 E hs, fun _ _ _ _ _ _ E hs => tBX12_table_138 hd ih.2.2.2.2.2.1 E hs, fun _ _ _ _ E hs => tBX12_table_188 hd ih.2.2.1 ih.2.2.2.2.2.2.1 E hs, fun _ _ _ _ E hs => tBX12_table_195 hd ih.2.2.2.2.2.2.1 ih.2.2.2.2.2.2.2 E hs, fun _ _ _ _ E hs => tBX12_table_221 hd ih.2.2.2.2.2.2.2 E hs⟩
noncomputable def qX12_table (h : ea_H) : Option (Unit × ea_H) := qX12_table_0  h
theorem sX12_table {d : Nat} {h : ea_H} {r : Unit} {h' : ea_H} (hd : 4 ≤ d) (hs : ShM h) (K : qX12_table h = some (r, h')) : ea_Met mX12_table d [vR (some 326)] h none h' := by
  unfold qX12_table at K
  obtain ⟨n, hn⟩ := fqX12_table_0  h _ K
  have W := (tgX12_table (d := d) (h0 := h) hd n).1  h _ _ (hn n (Nat.le_refl _)) hs
  exact ea_enter rfl (Nat.le_of_ble_eq_true rfl) W
theorem kpX12_table (h : ea_H) : kp (ea_core h) (qX12_table h) := fun x e => by
  obtain ⟨n, hn⟩ := fqX12_table_0  h x e
  exact (kgX12_table n).1  h x (hn n (Nat.le_refl _))
noncomputable def BX12_bestFrom_0 (x1 : Int32) (x2 : Int32) (x3 : Int32) (h : ea_H) : Option (Int32 × ea_H) :=
  (Option.bind (qX12_table  h) fun w1 => (Option.bind (qX12_going (x1 : Int32) (x2 : Int32) w1.2) fun w2 => (if w2.1 = ((-1) : Int32) then (some (((-1) : Int32), w2.2)) else (gd (vp_in (((12 : Int32) * w2.1) + x3) 12000) (some ((ea_i w2.2 344 (Int32.toNatClampNeg (((12 : Int32) * w2.1) + x3))), w2.2))))))
theorem tBX12_bestFrom_0 {d : Nat} {h0 : ea_H} (hd : 5 ≤ d)  {x1 : Int32} {x2 : Int32} {x3 : Int32} {h : ea_H} {r : Int32} {h' : ea_H} (E : BX12_bestFrom_0 x1 x2 x3 h = some (r, h')) (hs : ShM h) : ea_W mX12_bestFrom d h0 (some (vI r)) h' 0 [(0, vR (some 326)), (1, vI x1), (2, vI x2), (3, vI x3)] [] h := by
  unfold BX12_bestFrom_0 at E
  obtain ⟨w1, Ew1, E⟩ := bd_some E
  have hsw1 : ShM w1.2 := ShM_core ((kpX12_table _) _ Ew1) hs
  refine ea_aload_n (pc := 0) dX12_bestFrom_0 rfl 0 rfl ?_
  refine ea_callV (pc := 1) (d' := d - 1) (As := []) (st := []) dX12_bestFrom_1 kX12_table (sX12_table (d := d - 1) (by omega) hs Ew1) (by omega) rfl (Nat.le_of_ble_eq_true rfl) ew_1831 ew_1833 ew_61 (ci := 12) rfl (by decide) (cShM_326 hs).1 (cShM_326 hs).2.1 ?_
  obtain ⟨w2, Ew2, E⟩ := bd_some E
  have hsw2 : ShM w2.2 := ShM_core ((kpX12_going _ _ _) _ Ew2) hsw1
  refine ea_aload_n (pc := 4) dX12_bestFrom_4 rfl 0 rfl ?_
  refine ea_iload_n (pc := 5) dX12_bestFrom_5 rfl 1 rfl ?_
  refine ea_iload_n (pc := 6) dX12_bestFrom_6 rfl 2 rfl ?_
  refine ea_callV (pc := 7) (d' := d - 1) (As := [vI x1, vI x2]) (st := []) dX12_bestFrom_7 kX12_going (sX12_going (d := d - 1) (by omega) hsw1 Ew2) (by omega) rfl (Nat.le_of_ble_eq_true rfl) ew_1859 ew_1861 ew_68 (ci := 12) rfl (by decide) (cShM_326 hsw1).1 (cShM_326 hsw1).2.1 ?_
  refine ea_istore (pc := 10) (lv' := [(0, vR (some 326)), (3, vI x3), (4, vI w2.1)]) dX12_bestFrom_10 (Nat.le_of_ble_eq_true rfl) [1, 4, 0] rfl ?_
  refine ea_iload (pc := 12) dX12_bestFrom_12 2 rfl ?_
  refine ea_iconst (pc := 14) dX12_bestFrom_14 (v := (-1)) rfl ?_
  refine ea_icmp_ne (pc := 15) (tgt := 22) dX12_bestFrom_15 rfl (fun c4 => ?_) (fun c4 => ?_)
  · have E := (if_neg c4).symm.trans E
    obtain ⟨z3, E⟩ := gd_some E
    refine ea_aload_n (pc := 22) dX12_bestFrom_22 rfl 0 rfl ?_
    refine ea_getR (pc := 23) dX12_bestFrom_23 ec_12 (k := 22) (Nat.le_of_ble_eq_true rfl) rfl (Or.inl ew_1424) (cShM_326 hsw2).1 (cShM_326 hsw2).2.1 (rShM_326_22 hsw2) ?_
    refine ea_bipush (pc := 26) dX12_bestFrom_26 (v := 12) rfl ?_
    refine ea_iload (pc := 28) dX12_bestFrom_28 2 rfl ?_
    refine ea_imul (pc := 30) dX12_bestFrom_30 ?_
    refine ea_iload_n (pc := 31) dX12_bestFrom_31 rfl 1 rfl ?_
    refine ea_iadd (pc := 32) dX12_bestFrom_32 ?_
    refine ea_iald (pc := 33) dX12_bestFrom_33 (cShM_344 hsw2).1 (cShM_344 hsw2).2.1 (ea_vpl (cShM_344 hsw2).2.2 z3) ?_
    exact ea_iretO (pc := 34) dX12_bestFrom_34 rfl rfl E
  · have E := (if_pos c4).symm.trans E
    refine ea_iconst (pc := 18) dX12_bestFrom_18 (v := (-1)) rfl ?_
    refine ea_goto (pc := 19) (tgt := 34) dX12_bestFrom_19 rfl ?_
    exact ea_iretO (pc := 34) dX12_bestFrom_34 rfl rfl E
theorem kBX12_bestFrom_0  {x1 : Int32} {x2 : Int32} {x3 : Int32} {h : ea_H} : kp (ea_core h) (BX12_bestFrom_0 x1 x2 x3 h) :=
  (kp_bind (kp_tw (kpX12_table _) rfl) fun w1 hcw1 => (kp_bind (kp_tw (kpX12_going _ _ _) hcw1) fun w2 hcw2 => (kp_ite (kp_ret hcw2) (kp_gd (kp_ret hcw2)))))
noncomputable def qX12_bestFrom (x1 : Int32) (x2 : Int32) (x3 : Int32) (h : ea_H) : Option (Int32 × ea_H) := BX12_bestFrom_0 x1 x2 x3 h
theorem sX12_bestFrom {d : Nat} {x1 : Int32} {x2 : Int32} {x3 : Int32} {h : ea_H} {r : Int32} {h' : ea_H} (hd : 5 ≤ d) (hs : ShM h) (K : qX12_bestFrom x1 x2 x3 h = some (r, h')) : ea_Met mX12_bestFrom d [vR (some 326), vI x1, vI x2, vI x3] h (some (vI r)) h' := by
  unfold qX12_bestFrom at K
  have W := tBX12_bestFrom_0 hd (h0 := h) K hs
  exact ea_enter rfl (Nat.le_of_ble_eq_true rfl) W
theorem kpX12_bestFrom (x1 : Int32) (x2 : Int32) (x3 : Int32) (h : ea_H) : kp (ea_core h) (qX12_bestFrom x1 x2 x3 h) := kBX12_bestFrom_0
noncomputable def BX12_way_0 (x1 : Int32) (x2 : Int32) (x3 : Int32) (x4 : Int32) (h : ea_H) : Option (Int32 × ea_H) :=
  (Option.bind (qX12_isTown (x1 : Int32) h) fun w1 => (if w1.1 = (0 : Int32) then (some (((-1) : Int32), w1.2)) else (Option.bind (qX12_isTown (x3 : Int32) w1.2) fun w2 => (if w2.1 = (0 : Int32) then (some (((-1) : Int32), w2.2)) else (if x1 = x3 then (some (((-1) : Int32), w2.2)) else (Option.bind (qX12_isIn (x2 : Int32) ((ea_i w2.2 326 0) : Int32) (10079 : Int32) w2.2) fun w3 => (if w3.1 = (0 : Int32) then (some (((-1) : Int32), w3.2)) else (Option.bind (qX12_bestFrom (x1 : Int32) (x2 : Int32) (x3 : Int32) w3.2) fun w4 => (if w4.1 = ((-1) : Int32) then (some (((-1) : Int32), w4.2)) else (if Int32.toInt x4 = 0 then (gd (vp_in (((12 : Int32) * w4.1) + x3) 12000) (some ((ea_i w4.2 341 (Int32.toNatClampNeg (((12 : Int32) * w4.1) + x3))), w4.2))) else (if Int32.toInt x4 = 1 then (gd (vp_in (((12 : Int32) * w4.1) + x3) 12000) (some ((ea_i w4.2 342 (Int32.toNatClampNeg (((12 : Int32) * w4.1) + x3))), w4.2))) else (if Int32.toInt x4 = 2 then (gd (vp_in w4.1 1000) (some (((ea_i w4.2 338 (Int32.toNatClampNeg w4.1)) / (7 : Int32)), w4.2))) else (if Int32.toInt x4 = 3 then (gd (vp_in w4.1 1000) (some (((ea_i w4.2 338 (Int32.toNatClampNeg w4.1)) - (ea_i w4.2 338 (Int32.toNatClampNeg w4.1)) / (7 : Int32) * (7 : Int32)), w4.2))) else (if Int32.toInt x4 = 4 then (gd (vp_in w4.1 1000) (some ((ea_i w4.2 339 (Int32.toNatClampNeg w4.1)), w4.2))) else (if Int32.toInt x4 = 5 then (gd (vp_in (((12 : Int32) * w4.1) + x3) 12000) (some ((ea_i w4.2 343 (Int32.toNatClampNeg (((12 : Int32) * w4.1) + x3))), w4.2))) else (some (((-1) : Int32), w4.2)))))))))))))))))
theorem tBX12_way_0 {d : Nat} {h0 : ea_H} (hd : 6 ≤ d)  {x1 : Int32} {x2 : Int32} {x3 : Int32} {x4 : Int32} {h : ea_H} {r : Int32} {h' : ea_H} (E : BX12_way_0 x1 x2 x3 x4 h = some (r, h')) (hs : ShM h) : ea_W mX12_way d h0 (some (vI r)) h' 0 [(0, vR (some 326)), (1, vI x1), (2, vI x2), (3, vI x3), (4, vI x4)] [] h := by
  unfold BX12_way_0 at E
  obtain ⟨w1, Ew1, E⟩ := bd_some E
  have hsw1 : ShM w1.2 := ShM_core ((kpX12_isTown _ _) _ Ew1) hs
  refine ea_aload_n (pc := 0) dX12_way_0 rfl 0 rfl ?_
  refine ea_iload_n (pc := 1) dX12_way_1 rfl 1 rfl ?_
  refine ea_callV (pc := 2) (d' := d - 1) (As := [vI x1]) (st := []) dX12_way_2 kX12_isTown (sX12_isTown (d := d - 1) (by omega) hs Ew1) (by omega) rfl (Nat.le_of_ble_eq_true rfl) ew_1765 ew_1767 ew_54 (ci := 12) rfl (by decide) (cShM_326 hs).1 (cShM_326 hs).2.1 ?_
  refine ea_if_eq (pc := 5) (tgt := 35) dX12_way_5 rfl (fun c15 => ?_) (fun c15 => ?_)
  · have E := (if_pos c15).symm.trans E
    refine ea_iconst (pc := 35) dX12_way_35 (v := (-1)) rfl ?_
    exact ea_iretO (pc := 36) dX12_way_36 rfl rfl E
  · have E := (if_neg c15).symm.trans E
    obtain ⟨w2, Ew2, E⟩ := bd_some E
    have hsw2 : ShM w2.2 := ShM_core ((kpX12_isTown _ _) _ Ew2) hsw1
    refine ea_aload_n (pc := 8) dX12_way_8 rfl 0 rfl ?_
    refine ea_iload_n (pc := 9) dX12_way_9 rfl 3 rfl ?_
    refine ea_callV (pc := 10) (d' := d - 1) (As := [vI x3]) (st := []) dX12_way_10 kX12_isTown (sX12_isTown (d := d - 1) (by omega) hsw1 Ew2) (by omega) rfl (Nat.le_of_ble_eq_true rfl) ew_1765 ew_1767 ew_54 (ci := 12) rfl (by decide) (cShM_326 hsw1).1 (cShM_326 hsw1).2.1 ?_
    refine ea_if_eq (pc := 13) (tgt := 35) dX12_way_13 rfl (fun c14 => ?_) (fun c14 => ?_)
    · have E := (if_pos c14).symm.trans E
      refine ea_iconst (pc := 35) dX12_way_35 (v := (-1)) rfl ?_
      exact ea_iretO (pc := 36) dX12_way_36 rfl rfl E
    · have E := (if_neg c14).symm.trans E
      refine ea_iload_n (pc := 16) dX12_way_16 rfl 1 rfl ?_
      refine ea_iload_n (pc := 17) dX12_way_17 rfl 3 rfl ?_
      refine ea_icmp_eq (pc := 18) (tgt := 35) dX12_way_18 rfl (fun c13 => ?_) (fun c13 => ?_)
      · have E := (if_pos c13).symm.trans E
        refine ea_iconst (pc := 35) dX12_way_35 (v := (-1)) rfl ?_
        exact ea_iretO (pc := 36) dX12_way_36 rfl rfl E
      · have E := (if_neg c13).symm.trans E
        obtain ⟨w3, Ew3, E⟩ := bd_some E
        have hsw3 : ShM w3.2 := ShM_core ((kpX12_isIn _ _ _ _) _ Ew3) hsw2
        refine ea_iload_n (pc := 21) dX12_way_21 rfl 2 rfl ?_
        refine ea_aload_n (pc := 22) dX12_way_22 rfl 0 rfl ?_
        refine ea_getI (pc := 23) dX12_way_23 ec_12 (k := 0) (Nat.le_of_ble_eq_true rfl) rfl (Or.inl ew_1402) (cShM_326 hsw2).1 (cShM_326 hsw2).2.1 ?_
        refine ea_sipush (pc := 26) dX12_way_26 (v := 10079) rfl ?_
        refine ea_callS (pc := 29) (d' := d - 1) (As := [vI x2, vI (ea_i w2.2 326 0), vI 10079]) (st := []) dX12_way_29 kX12_isIn (sX12_isIn (d := d - 1) (by omega) Ew3) (by omega) rfl (Nat.le_of_ble_eq_true rfl) ew_1769 ew_1770 ?_
        refine ea_if_ne (pc := 32) (tgt := 37) dX12_way_32 rfl (fun c12 => ?_) (fun c12 => ?_)
        · have E := (if_neg c12).symm.trans E
          obtain ⟨w4, Ew4, E⟩ := bd_some E
          have hsw4 : ShM w4.2 := ShM_core ((kpX12_bestFrom _ _ _ _) _ Ew4) hsw3
          refine ea_aload_n (pc := 37) dX12_way_37 rfl 0 rfl ?_
          refine ea_iload_n (pc := 38) dX12_way_38 rfl 1 rfl ?_
          refine ea_iload_n (pc := 39) dX12_way_39 rfl 2 rfl ?_
          refine ea_iload_n (pc := 40) dX12_way_40 rfl 3 rfl ?_
          refine ea_callV (pc := 41) (d' := d - 1) (As := [vI x1, vI x2, vI x3]) (st := []) dX12_way_41 kX12_bestFrom (sX12_bestFrom (d := d - 1) (by omega) hsw3 Ew4) (by omega) rfl (Nat.le_of_ble_eq_true rfl) ew_1827 ew_1829 ew_60 (ci := 12) rfl (by decide) (cShM_326 hsw3).1 (cShM_326 hsw3).2.1 ?_
          refine ea_istore (pc := 44) (lv' := [(0, vR (some 326)), (3, vI x3), (4, vI x4), (5, vI w4.1)]) dX12_way_44 (Nat.le_of_ble_eq_true rfl) [1, 4, 5, 0] rfl ?_
          refine ea_iload (pc := 46) dX12_way_46 3 rfl ?_
          refine ea_iconst (pc := 48) dX12_way_48 (v := (-1)) rfl ?_
          refine ea_icmp_ne (pc := 49) (tgt := 54) dX12_way_49 rfl (fun c11 => ?_) (fun c11 => ?_)
          · have E := (if_neg c11).symm.trans E
            refine ea_iload (pc := 54) dX12_way_54 2 rfl ?_
            by_cases q56_0 : Int32.toInt x4 = 0
            · have E := (if_pos q56_0).symm.trans E
              obtain ⟨z10, E⟩ := gd_some E
              refine ea_tswIn (pc := 56) (tgt := 96) dX12_way_56 (by rw [q56_0]; decide) (by rw [q56_0]; decide) (by rw [q56_0]; rfl) rfl ?_
              refine ea_aload_n (pc := 96) dX12_way_96 rfl 0 rfl ?_
              refine ea_getR (pc := 97) dX12_way_97 ec_12 (k := 19) (Nat.le_of_ble_eq_true rfl) rfl (Or.inl ew_1421) (cShM_326 hsw4).1 (cShM_326 hsw4).2.1 (rShM_326_19 hsw4) ?_
              refine ea_bipush (pc := 100) dX12_way_100 (v := 12) rfl ?_
              refine ea_iload (pc := 102) dX12_way_102 3 rfl ?_
              refine ea_imul (pc := 104) dX12_way_104 ?_
              refine ea_iload_n (pc := 105) dX12_way_105 rfl 1 rfl ?_
              refine ea_iadd (pc := 106) dX12_way_106 ?_
              refine ea_iald (pc := 107) dX12_way_107 (cShM_341 hsw4).1 (cShM_341 hsw4).2.1 (ea_vpl (cShM_341 hsw4).2.2 z10) ?_
              exact ea_iretO (pc := 108) dX12_way_108 rfl rfl E
            have E := (if_neg q56_0).symm.trans E
            by_cases q56_1 : Int32.toInt x4 = 1
            · have E := (if_pos q56_1).symm.trans E
              obtain ⟨z9, E⟩ := gd_some E
              refine ea_tswIn (pc := 56) (tgt := 109) dX12_way_56 (by rw [q56_1]; decide) (by rw [q56_1]; decide) (by rw [q56_1]; rfl) rfl ?_
              refine ea_aload_n (pc := 109) dX12_way_109 rfl 0 rfl ?_
              refine ea_getR (pc := 110) dX12_way_110 ec_12 (k := 20) (Nat.le_of_ble_eq_true rfl) rfl (Or.inl ew_1422) (cShM_326 hsw4).1 (cShM_326 hsw4).2.1 (rShM_326_20 hsw4) ?_
              refine ea_bipush (pc := 113) dX12_way_113 (v := 12) rfl ?_
              refine ea_iload (pc := 115) dX12_way_115 3 rfl ?_
              refine ea_imul (pc := 117) dX12_way_117 ?_
              refine ea_iload_n (pc := 118) dX12_way_118 rfl 1 rfl ?_
              refine ea_iadd (pc := 119) dX12_way_119 ?_
              refine ea_iald (pc := 120) dX12_way_120 (cShM_342 hsw4).1 (cShM_342 hsw4).2.1 (ea_vpl (cShM_342 hsw4).2.2 z9) ?_
              exact ea_iretO (pc := 121) dX12_way_121 rfl rfl E
            have E := (if_neg q56_1).symm.trans E
            by_cases q56_2 : Int32.toInt x4 = 2
            · have E := (if_pos q56_2).symm.trans E
              obtain ⟨z8, E⟩ := gd_some E
              refine ea_tswIn (pc := 56) (tgt := 122) dX12_way_56 (by rw [q56_2]; decide) (by rw [q56_2]; decide) (by rw [q56_2]; rfl) rfl ?_
              refine ea_aload_n (pc := 122) dX12_way_122 rfl 0 rfl ?_
              refine ea_getR (pc := 123) dX12_way_123 ec_12 (k := 16) (Nat.le_of_ble_eq_true rfl) rfl (Or.inl ew_1418) (cShM_326 hsw4).1 (cShM_326 hsw4).2.1 (rShM_326_16 hsw4) ?_
              refine ea_iload (pc := 126) dX12_way_126 3 rfl ?_
              refine ea_iald (pc := 128) dX12_way_128 (cShM_338 hsw4).1 (cShM_338 hsw4).2.1 (ea_vpl (cShM_338 hsw4).2.2 z8) ?_
              refine ea_bipush (pc := 129) dX12_way_129 (v := 7) rfl ?_
              refine ea_idiv (pc := 131) dX12_way_131 (by decide) ?_
              exact ea_iretO (pc := 132) dX12_way_132 rfl rfl E
            have E := (if_neg q56_2).symm.trans E
            by_cases q56_3 : Int32.toInt x4 = 3
            · have E := (if_pos q56_3).symm.trans E
              obtain ⟨z7, E⟩ := gd_some E
              refine ea_tswIn (pc := 56) (tgt := 133) dX12_way_56 (by rw [q56_3]; decide) (by rw [q56_3]; decide) (by rw [q56_3]; rfl) rfl ?_
              refine ea_aload_n (pc := 133) dX12_way_133 rfl 0 rfl ?_
              refine ea_getR (pc := 134) dX12_way_134 ec_12 (k := 16) (Nat.le_of_ble_eq_true rfl) rfl (Or.inl ew_1418) (cShM_326 hsw4).1 (cShM_326 hsw4).2.1 (rShM_326_16 hsw4) ?_
              refine ea_iload (pc := 137) dX12_way_137 3 rfl ?_
              refine ea_iald (pc := 139) dX12_way_139 (cShM_338 hsw4).1 (cShM_338 hsw4).2.1 (ea_vpl (cShM_338 hsw4).2.2 z7) ?_
              refine ea_bipush (pc := 140) dX12_way_140 (v := 7) rfl ?_
              refine ea_irem (pc := 142) dX12_way_142 (by decide) ?_
              exact ea_iretO (pc := 143) dX12_way_143 rfl rfl E
            have E := (if_neg q56_3).symm.trans E
            by_cases q56_4 : Int32.toInt x4 = 4
            · have E := (if_pos q56_4).symm.trans E
              obtain ⟨z6, E⟩ := gd_some E
              refine ea_tswIn (pc := 56) (tgt := 144) dX12_way_56 (by rw [q56_4]; decide) (by rw [q56_4]; decide) (by rw [q56_4]; rfl) rfl ?_
              refine ea_aload_n (pc := 144) dX12_way_144 rfl 0 rfl ?_
              refine ea_getR (pc := 145) dX12_way_145 ec_12 (k := 17) (Nat.le_of_ble_eq_true rfl) rfl (Or.inl ew_1419) (cShM_326 hsw4).1 (cShM_326 hsw4).2.1 (rShM_326_17 hsw4) ?_
              refine ea_iload (pc := 148) dX12_way_148 3 rfl ?_
              refine ea_iald (pc := 150) dX12_way_150 (cShM_339 hsw4).1 (cShM_339 hsw4).2.1 (ea_vpl (cShM_339 hsw4).2.2 z6) ?_
              exact ea_iretO (pc := 151) dX12_way_151 rfl rfl E
            have E := (if_neg q56_4).symm.trans E
            by_cases q56_5 : Int32.toInt x4 = 5
            · have E := (if_pos q56_5).symm.trans E
              obtain ⟨z5, E⟩ := gd_some E
              refine ea_tswIn (pc := 56) (tgt := 152) dX12_way_56 (by rw [q56_5]; decide) (by rw [q56_5]; decide) (by rw [q56_5]; rfl) rfl ?_
              refine ea_aload_n (pc := 152) dX12_way_152 rfl 0 rfl ?_
              refine ea_getR (pc := 153) dX12_way_153 ec_12 (k := 21) (Nat.le_of_ble_eq_true rfl) rfl (Or.inl ew_1423) (cShM_326 hsw4).1 (cShM_326 hsw4).2.1 (rShM_326_21 hsw4) ?_
              refine ea_bipush (pc := 156) dX12_way_156 (v := 12) rfl ?_
              refine ea_iload (pc := 158) dX12_way_158 3 rfl ?_
              refine ea_imul (pc := 160) dX12_way_160 ?_
              refine ea_iload_n (pc := 161) dX12_way_161 rfl 1 rfl ?_
              refine ea_iadd (pc := 162) dX12_way_162 ?_
              refine ea_iald (pc := 163) dX12_way_163 (cShM_343 hsw4).1 (cShM_343 hsw4).2.1 (ea_vpl (cShM_343 hsw4).2.2 z5) ?_
              exact ea_iretO (pc := 164) dX12_way_164 rfl rfl E
            have E := (if_neg q56_5).symm.trans E
            refine ea_tswOut (pc := 56) (tgt := 165) dX12_way_56 (ea_sw_0_5 q56_0 q56_1 q56_2 q56_3 q56_4 q56_5) rfl ?_
            refine ea_iconst (pc := 165) dX12_way_165 (v := (-1)) rfl ?_
            exact ea_iretO (pc := 166) dX12_way_166 rfl rfl E
          · have E := (if_pos c11).symm.trans E
            refine ea_iconst (pc := 52) dX12_way_52 (v := (-1)) rfl ?_
            exact ea_iretO (pc := 53) dX12_way_53 rfl rfl E
        · have E := (if_pos c12).symm.trans E
          refine ea_iconst (pc := 35) dX12_way_35 (v := (-1)) rfl ?_
          exact ea_iretO (pc := 36) dX12_way_36 rfl rfl E
theorem kBX12_way_0  {x1 : Int32} {x2 : Int32} {x3 : Int32} {x4 : Int32} {h : ea_H} : kp (ea_core h) (BX12_way_0 x1 x2 x3 x4 h) :=
  (kp_bind (kp_tw (kpX12_isTown _ _) rfl) fun w1 hcw1 => (kp_ite (kp_ret hcw1) (kp_bind (kp_tw (kpX12_isTown _ _) hcw1) fun w2 hcw2 => (kp_ite (kp_ret hcw2) (kp_ite (kp_ret hcw2) (kp_bind (kp_tw (kpX12_isIn _ _ _ _) hcw2) fun w3 hcw3 => (kp_ite (kp_ret hcw3) (kp_bind (kp_tw (kpX12_bestFrom _ _ _ _) hcw3) fun w4 hcw4 => (kp_ite (kp_ret hcw4) (kp_ite (kp_gd (kp_ret hcw4)) (kp_ite (kp_gd (kp_ret hcw4)) (kp_ite (kp_gd (kp_ret hcw4)) (kp_ite (kp_gd (kp_ret hcw4)) (kp_ite (kp_gd (kp_ret hcw4)) (kp_ite (kp_gd (kp_ret hcw4)) (kp_ret hcw4))))))))))))))))
noncomputable def qX12_way (x1 : Int32) (x2 : Int32) (x3 : Int32) (x4 : Int32) (h : ea_H) : Option (Int32 × ea_H) := BX12_way_0 x1 x2 x3 x4 h
theorem sX12_way {d : Nat} {x1 : Int32} {x2 : Int32} {x3 : Int32} {x4 : Int32} {h : ea_H} {r : Int32} {h' : ea_H} (hd : 6 ≤ d) (hs : ShM h) (K : qX12_way x1 x2 x3 x4 h = some (r, h')) : ea_Met mX12_way d [vR (some 326), vI x1, vI x2, vI x3, vI x4] h (some (vI r)) h' := by
  unfold qX12_way at K
  have W := tBX12_way_0 hd (h0 := h) K hs
  exact ea_enter rfl (Nat.le_of_ble_eq_true rfl) W
theorem kpX12_way (x1 : Int32) (x2 : Int32) (x3 : Int32) (x4 : Int32) (h : ea_H) : kp (ea_core h) (qX12_way x1 x2 x3 x4 h) := kBX12_way_0
noncomputable def BX12_leaves_0 (J25 : Int32 → Int32 → Int32 → Int32 → Int32 → ea_H → Option (Unit × ea_H)) (x1 : Int32) (h : ea_H) : Option (Unit × ea_H) :=
  (gd (vp_in x1 1000) (ea_let (ea_i h 338 (Int32.toNatClampNeg x1)) fun (v2 : Int32) => (gd (vp_in x1 1000) (ea_let (ea_i h 339 (Int32.toNatClampNeg x1)) fun (v4 : Int32) => (Option.bind (qX12_townOf (v2 : Int32) (v4 : Int32) h) fun w5 => (J25 (x1 : Int32) (v2 : Int32) (v4 : Int32) (w5.1 : Int32) (0 : Int32) w5.2))))))
set_option maxRecDepth 100000 in
set_option maxHeartbeats 0 in
theorem tBX12_leaves_0 {d : Nat} {h0 : ea_H} (hd : 6 ≤ d) {J25 : Int32 → Int32 → Int32 → Int32 → Int32 → ea_H → Option (Unit × ea_H)}  (kJ25 : ∀ (x1 : Int32) (x2 : Int32) (x3 : Int32) (x4 : Int32) (x5 : Int32) (h : ea_H) (r : Unit) (h' : ea_H), J25 x1 x2 x3 x4 x5 h = some (r, h') → ShM h → ea_W mX12_leaves d h0 none h' 25 [(0, vR (some 326)), (1, vI x1), (2, vI x2), (3, vI x3), (4, vI x4), (5, vI x5)] [] h) {x1 : Int32} {h : ea_H} {r : Unit} {h' : ea_H} (E : BX12_leaves_0 J25 x1 h = some (r, h')) (hs : ShM h) : ea_W mX12_leaves d h0 none h' 0 [(0, vR (some 326)), (1, vI x1)] [] h := by
  unfold BX12_leaves_0 at E
  obtain ⟨z1, E⟩ := gd_some E
  refine ea_aload_n (pc := 0) dX12_leaves_0 rfl 0 rfl ?_
  refine ea_getR (pc := 1) dX12_leaves_1 ec_12 (k := 16) (Nat.le_of_ble_eq_true rfl) rfl (Or.inl ew_1418) (cShM_326 hs).1 (cShM_326 hs).2.1 (rShM_326_16 hs) ?_
  refine ea_iload_n (pc := 4) dX12_leaves_4 rfl 1 rfl ?_
  obtain ⟨v2, ev2, E⟩ := let_some E
  refine ea_iald (pc := 5) dX12_leaves_5 (cShM_338 hs).1 (cShM_338 hs).2.1 (ea_vpl (cShM_338 hs).2.2 z1) ?_
  obtain ⟨z3, E⟩ := gd_some E
  refine ea_istore_n (pc := 6) (lv' := [(0, vR (some 326)), (1, vI x1), (2, vI v2)]) dX12_leaves_6 rfl (Nat.le_of_ble_eq_true rfl) [1, 2, 0] (by rw [ev2]; rfl) ?_
  refine ea_aload_n (pc := 7) dX12_leaves_7 rfl 0 rfl ?_
  refine ea_getR (pc := 8) dX12_leaves_8 ec_12 (k := 17) (Nat.le_of_ble_eq_true rfl) rfl (Or.inl ew_1419) (cShM_326 hs).1 (cShM_326 hs).2.1 (rShM_326_17 hs) ?_
  refine ea_iload_n (pc := 11) dX12_leaves_11 rfl 1 rfl ?_
  obtain ⟨v4, ev4, E⟩ := let_some E
  refine ea_iald (pc := 12) dX12_leaves_12 (cShM_339 hs).1 (cShM_339 hs).2.1 (ea_vpl (cShM_339 hs).2.2 z3) ?_
  obtain ⟨w5, Ew5, E⟩ := bd_some E
  have hsw5 : ShM w5.2 := ShM_core ((kpX12_townOf _ _ _) _ Ew5) hs
  refine ea_istore_n (pc := 13) (lv' := [(0, vR (some 326)), (1, vI x1), (2, vI v2), (3, vI v4)]) dX12_leaves_13 rfl (Nat.le_of_ble_eq_true rfl) [1, 2, 3, 0] (by rw [ev4]; rfl) ?_
  refine ea_aload_n (pc := 14) dX12_leaves_14 rfl 0 rfl ?_
  refine ea_iload_n (pc := 15) dX12_leaves_15 rfl 2 rfl ?_
  refine ea_iload_n (pc := 16) dX12_leaves_16 rfl 3 rfl ?_
  refine ea_callV (pc := 17) (d' := d - 1) (As := [vI v2, vI v4]) (st := []) dX12_leaves_17 kX12_townOf (sX12_townOf (d := d - 1) (by omega) hs Ew5) (by omega) rfl (Nat.le_of_ble_eq_true rfl) ew_1855 ew_1857 ew_67 (ci := 12) rfl (by decide) (cShM_326 hs).1 (cShM_326 hs).2.1 ?_
  refine ea_istore (pc := 20) (lv' := [(0, vR (some 326)), (1, vI x1), (2, vI v2), (3, vI v4), (4, vI w5.1)]) dX12_leaves_20 (Nat.le_of_ble_eq_true rfl) [1, 2, 3, 4, 0] rfl ?_
  refine ea_iconst (pc := 22) dX12_leaves_22 (v := 0) rfl ?_
  refine ea_istore (pc := 23) (lv' := [(0, vR (some 326)), (1, vI x1), (2, vI v2), (3, vI v4), (4, vI w5.1), (5, vI 0)]) dX12_leaves_23 (Nat.le_of_ble_eq_true rfl) [1, 2, 3, 4, 5, 0] rfl ?_
  exact (kJ25 (x1 : Int32) (v2 : Int32) (v4 : Int32) (w5.1 : Int32) (0 : Int32) w5.2 _ _ E hsw5)
set_option maxRecDepth 100000 in
set_option maxHeartbeats 0 in
theorem kBX12_leaves_0 {J25 : Int32 → Int32 → Int32 → Int32 → Int32 → ea_H → Option (Unit × ea_H)}  (cJ25 : ∀ (x1 : Int32) (x2 : Int32) (x3 : Int32) (x4 : Int32) (x5 : Int32) (h : ea_H), kp (ea_core h) (J25 x1 x2 x3 x4 x5 h)) {x1 : Int32} {h : ea_H} : kp (ea_core h) (BX12_leaves_0 J25 x1 h) :=
  (kp_gd (kp_let (kp_gd (kp_let (kp_bind (kp_tw (kpX12_townOf _ _ _) rfl) fun w5 hcw5 => (kp_tw (cJ25 _ _ _ _ _ _) hcw5))))))
set_option maxRecDepth 100000 in
set_option maxHeartbeats 0 in
theorem lBX12_leaves_0 {J25 : Int32 → Int32 → Int32 → Int32 → Int32 → ea_H → Option (Unit × ea_H)} {J25_ : Int32 → Int32 → Int32 → Int32 → Int32 → ea_H → Option (Unit × ea_H)}  (mJ25 : ∀ (x1 : Int32) (x2 : Int32) (x3 : Int32) (x4 : Int32) (x5 : Int32) (h : ea_H), fle (J25 x1 x2 x3 x4 x5 h) (J25_ x1 x2 x3 x4 x5 h)) {x1 : Int32} {h : ea_H} : fle (BX12_leaves_0 J25 x1 h) (BX12_leaves_0 J25_ x1 h) :=
  (fle_gd (fle_let fun _ => (fle_gd (fle_let fun _ => (fle_bind (fle_rfl _) fun _ => (mJ25 _ _ _ _ _ _))))))
set_option maxRecDepth 100000 in
set_option maxHeartbeats 0 in
theorem nBX12_leaves_0 {J25 : Int32 → Int32 → Int32 → Int32 → Int32 → ea_H → Option (Unit × ea_H)} {J25_ : Nat → (Int32 → Int32 → Int32 → Int32 → Int32 → ea_H → Option (Unit × ea_H))}  (mJ25 : ∀ (x1 : Int32) (x2 : Int32) (x3 : Int32) (x4 : Int32) (x5 : Int32) (h : ea_H), fct (J25 x1 x2 x3 x4 x5 h) (fun f => J25_ f x1 x2 x3 x4 x5 h)) {x1 : Int32} {h : ea_H} : fct (BX12_leaves_0 J25 x1 h) (fun f => BX12_leaves_0 (J25_ f) x1 h) :=
  (fct_gd (fct_let fun _ => (fct_gd (fct_let fun _ => (fct_bind (fct_rfl _) fun _ => (mJ25 _ _ _ _ _ _))))))
noncomputable def BX12_leaves_25 (J25 : Int32 → Int32 → Int32 → Int32 → Int32 → ea_H → Option (Unit × ea_H)) (J151 : Int32 → Int32 → ea_H → Option (Unit × ea_H)) (x1 : Int32) (x2 : Int32) (x3 : Int32) (x4 : Int32) (x5 : Int32) (h : ea_H) : Option (Unit × ea_H) :=
  (if (ea_i h 326 63) ≤ x5 then (J151 (x2 : Int32) (x3 : Int32) h) else (gd (vp_in (((8 : Int32) * x2) + x3) 560) (if (ea_i h 334 (Int32.toNatClampNeg (((8 : Int32) * x2) + x3))) = (0 : Int32) then (gd (vp_in x5 120) (if (ea_i h 381 (Int32.toNatClampNeg x5)) = (0 : Int32) then (gd (vp_in x5 120) (if (ea_i h 382 (Int32.toNatClampNeg x5)) = x4 then (gd (vp_in x1 1000) (gd (vp_in x5 120) (Option.bind (qX12_bestFrom (x4 : Int32) ((ea_i h 336 (Int32.toNatClampNeg x1)) : Int32) ((ea_i h 366 (Int32.toNatClampNeg x5)) : Int32) h) fun w11 => (if w11.1 = x1 then (gd (vp_in x5 120) (gd (vp_in (((12 : Int32) * x1) + (ea_i w11.2 366 (Int32.toNatClampNeg x5))) 12000) (gd (vp_in x5 120) (ea_let (ea_wi w11.2 383 (Int32.toNatClampNeg x5) (ea_i w11.2 343 (Int32.toNatClampNeg (((12 : Int32) * x1) + (ea_i w11.2 366 (Int32.toNatClampNeg x5)))))) fun H15 => (gd (vp_in x5 120) (ea_let (ea_wi H15 387 (Int32.toNatClampNeg x5) 0) fun H17 => (gd (vp_in x1 1000) (Option.bind (qX12_code (x2 : Int32) H17) fun w19 => (Option.bind (qX12_turns (x5 : Int32) ((ea_i H17 336 (Int32.toNatClampNeg x1)) : Int32) (1 : Int32) (w19.1 : Int32) w19.2) fun w20 => (J25 (x1 : Int32) (x2 : Int32) (x3 : Int32) (x4 : Int32) ((x5 + (1 : Int32)) : Int32) w20.2)))))))))) else (J25 (x1 : Int32) (x2 : Int32) (x3 : Int32) (x4 : Int32) ((x5 + (1 : Int32)) : Int32) w11.2))))) else (J25 (x1 : Int32) (x2 : Int32) (x3 : Int32) (x4 : Int32) ((x5 + (1 : Int32)) : Int32) h))) else (J25 (x1 : Int32) (x2 : Int32) (x3 : Int32) (x4 : Int32) ((x5 + (1 : Int32)) : Int32) h))) else (J151 (x2 : Int32) (x3 : Int32) h))))
set_option maxRecDepth 100000 in
set_option maxHeartbeats 0 in
theorem tBX12_leaves_25 {d : Nat} {h0 : ea_H} (hd : 6 ≤ d) {J25 : Int32 → Int32 → Int32 → Int32 → Int32 → ea_H → Option (Unit × ea_H)} {J151 : Int32 → Int32 → ea_H → Option (Unit × ea_H)}  (kJ25 : ∀ (x1 : Int32) (x2 : Int32) (x3 : Int32) (x4 : Int32) (x5 : Int32) (h : ea_H) (r : Unit) (h' : ea_H), J25 x1 x2 x3 x4 x5 h = some (r, h') → ShM h → ea_W mX12_leaves d h0 none h' 25 [(0, vR (some 326)), (1, vI x1), (2, vI x2), (3, vI x3), (4, vI x4), (5, vI x5)] [] h) (kJ151 : ∀ (x2 : Int32) (x3 : Int32) (h : ea_H) (r : Unit) (h' : ea_H), J151 x2 x3 h = some (r, h') → ShM h → ea_W mX12_leaves d h0 none h' 151 [(0, vR (some 326)), (2, vI x2), (3, vI x3)] [] h) {x1 : Int32} {x2 : Int32} {x3 : Int32} {x4 : Int32} {x5 : Int32} {h : ea_H} {r : Unit} {h' : ea_H} (E : BX12_leaves_25 J25 J151 x1 x2 x3 x4 x5 h = some (r, h')) (hs : ShM h) : ea_W mX12_leaves d h0 none h' 25 [(0, vR (some 326)), (1, vI x1), (2, vI x2), (3, vI x3), (4, vI x4), (5, vI x5)] [] h := by
  unfold BX12_leaves_25 at E
  refine ea_iload (pc := 25) dX12_leaves_25 5 rfl ?_
  refine ea_aload_n (pc := 27) dX12_leaves_27 rfl 0 rfl ?_
  refine ea_getI (pc := 28) dX12_leaves_28 ec_12 (k := 63) (Nat.le_of_ble_eq_true rfl) rfl (Or.inl ew_1465) (cShM_326 hs).1 (cShM_326 hs).2.1 ?_
  refine ea_icmp_ge (pc := 31) (tgt := 151) dX12_leaves_31 rfl (fun c25 => ?_) (fun c25 => ?_)
  · have E := (if_pos c25).symm.trans E
    exact ea_fewer [0, 2, 3] rfl (kJ151 (x2 : Int32) (x3 : Int32) h _ _ E hs)
  · have E := (if_neg c25).symm.trans E
    obtain ⟨z6, E⟩ := gd_some E
    refine ea_aload_n (pc := 34) dX12_leaves_34 rfl 0 rfl ?_
    refine ea_getR (pc := 35) dX12_leaves_35 ec_12 (k := 10) (Nat.le_of_ble_eq_true rfl) rfl (Or.inl ew_1412) (cShM_326 hs).1 (cShM_326 hs).2.1 (rShM_326_10 hs) ?_
    refine ea_bipush (pc := 38) dX12_leaves_38 (v := 8) rfl ?_
    refine ea_iload_n (pc := 40) dX12_leaves_40 rfl 2 rfl ?_
    refine ea_imul (pc := 41) dX12_leaves_41 ?_
    refine ea_iload_n (pc := 42) dX12_leaves_42 rfl 3 rfl ?_
    refine ea_iadd (pc := 43) dX12_leaves_43 ?_
    refine ea_zald (pc := 44) dX12_leaves_44 (cShM_334 hs).1 (cShM_334 hs).2.1 (ea_vpl (cShM_334 hs).2.2 z6) ?_
    refine ea_if_ne (pc := 45) (tgt := 151) dX12_leaves_45 rfl (fun c24 => ?_) (fun c24 => ?_)
    · have E := (if_neg c24).symm.trans E
      exact ea_fewer [0, 2, 3] rfl (kJ151 (x2 : Int32) (x3 : Int32) h _ _ E hs)
    · have E := (if_pos c24).symm.trans E
      obtain ⟨z7, E⟩ := gd_some E
      refine ea_aload_n (pc := 48) dX12_leaves_48 rfl 0 rfl ?_
      refine ea_getR (pc := 49) dX12_leaves_49 ec_12 (k := 81) (Nat.le_of_ble_eq_true rfl) rfl (Or.inl ew_1483) (cShM_326 hs).1 (cShM_326 hs).2.1 (rShM_326_81 hs) ?_
      refine ea_iload (pc := 52) dX12_leaves_52 5 rfl ?_
      refine ea_iald (pc := 54) dX12_leaves_54 (cShM_381 hs).1 (cShM_381 hs).2.1 (ea_vpl (cShM_381 hs).2.2 z7) ?_
      refine ea_if_ne (pc := 55) (tgt := 145) dX12_leaves_55 rfl (fun c23 => ?_) (fun c23 => ?_)
      · have E := (if_neg c23).symm.trans E
        refine ea_iinc (pc := 145) (v := 1) (lv' := [(0, vR (some 326)), (1, vI x1), (2, vI x2), (3, vI x3), (4, vI x4), (5, vI (x5 + (1 : Int32)))]) dX12_leaves_145 5 rfl rfl (Nat.le_of_ble_eq_true rfl) [1, 2, 3, 4, 5, 0] rfl ?_
        refine ea_goto (pc := 148) (tgt := 25) dX12_leaves_148 rfl ?_
        exact (kJ25 (x1 : Int32) (x2 : Int32) (x3 : Int32) (x4 : Int32) ((x5 + (1 : Int32)) : Int32) h _ _ E hs)
      · have E := (if_pos c23).symm.trans E
        obtain ⟨z8, E⟩ := gd_some E
        refine ea_aload_n (pc := 58) dX12_leaves_58 rfl 0 rfl ?_
        refine ea_getR (pc := 59) dX12_leaves_59 ec_12 (k := 82) (Nat.le_of_ble_eq_true rfl) rfl (Or.inl ew_1484) (cShM_326 hs).1 (cShM_326 hs).2.1 (rShM_326_82 hs) ?_
        refine ea_iload (pc := 62) dX12_leaves_62 5 rfl ?_
        refine ea_iald (pc := 64) dX12_leaves_64 (cShM_382 hs).1 (cShM_382 hs).2.1 (ea_vpl (cShM_382 hs).2.2 z8) ?_
        refine ea_iload (pc := 65) dX12_leaves_65 4 rfl ?_
        refine ea_icmp_ne (pc := 67) (tgt := 145) dX12_leaves_67 rfl (fun c22 => ?_) (fun c22 => ?_)
        · have E := (if_neg c22).symm.trans E
          refine ea_iinc (pc := 145) (v := 1) (lv' := [(0, vR (some 326)), (1, vI x1), (2, vI x2), (3, vI x3), (4, vI x4), (5, vI (x5 + (1 : Int32)))]) dX12_leaves_145 5 rfl rfl (Nat.le_of_ble_eq_true rfl) [1, 2, 3, 4, 5, 0] rfl ?_
          refine ea_goto (pc := 148) (tgt := 25) dX12_leaves_148 rfl ?_
          exact (kJ25 (x1 : Int32) (x2 : Int32) (x3 : Int32) (x4 : Int32) ((x5 + (1 : Int32)) : Int32) h _ _ E hs)
        · have E := (if_pos c22).symm.trans E
          obtain ⟨z9, E⟩ := gd_some E
          refine ea_aload_n (pc := 70) dX12_leaves_70 rfl 0 rfl ?_
          refine ea_iload (pc := 71) dX12_leaves_71 4 rfl ?_
          refine ea_aload_n (pc := 73) dX12_leaves_73 rfl 0 rfl ?_
          refine ea_getR (pc := 74) dX12_leaves_74 ec_12 (k := 14) (Nat.le_of_ble_eq_true rfl) rfl (Or.inl ew_1416) (cShM_326 hs).1 (cShM_326 hs).2.1 (rShM_326_14 hs) ?_
          refine ea_iload_n (pc := 77) dX12_leaves_77 rfl 1 rfl ?_
          obtain ⟨z10, E⟩ := gd_some E
          refine ea_iald (pc := 78) dX12_leaves_78 (cShM_336 hs).1 (cShM_336 hs).2.1 (ea_vpl (cShM_336 hs).2.2 z9) ?_
          refine ea_aload_n (pc := 79) dX12_leaves_79 rfl 0 rfl ?_
          refine ea_getR (pc := 80) dX12_leaves_80 ec_12 (k := 66) (Nat.le_of_ble_eq_true rfl) rfl (Or.inl ew_1468) (cShM_326 hs).1 (cShM_326 hs).2.1 (rShM_326_66 hs) ?_
          refine ea_iload (pc := 83) dX12_leaves_83 5 rfl ?_
          obtain ⟨w11, Ew11, E⟩ := bd_some E
          have hsw11 : ShM w11.2 := ShM_core ((kpX12_bestFrom _ _ _ _) _ Ew11) hs
          refine ea_iald (pc := 85) dX12_leaves_85 (cShM_366 hs).1 (cShM_366 hs).2.1 (ea_vpl (cShM_366 hs).2.2 z10) ?_
          refine ea_callV (pc := 86) (d' := d - 1) (As := [vI x4, vI (ea_i h 336 (Int32.toNatClampNeg x1)), vI (ea_i h 366 (Int32.toNatClampNeg x5))]) (st := []) dX12_leaves_86 kX12_bestFrom (sX12_bestFrom (d := d - 1) (by omega) hs Ew11) (by omega) rfl (Nat.le_of_ble_eq_true rfl) ew_1827 ew_1829 ew_60 (ci := 12) rfl (by decide) (cShM_326 hs).1 (cShM_326 hs).2.1 ?_
          refine ea_iload_n (pc := 89) dX12_leaves_89 rfl 1 rfl ?_
          refine ea_icmp_eq (pc := 90) (tgt := 96) dX12_leaves_90 rfl (fun c21 => ?_) (fun c21 => ?_)
          · have E := (if_pos c21).symm.trans E
            obtain ⟨z12, E⟩ := gd_some E
            refine ea_aload_n (pc := 96) dX12_leaves_96 rfl 0 rfl ?_
            refine ea_getR (pc := 97) dX12_leaves_97 ec_12 (k := 83) (Nat.le_of_ble_eq_true rfl) rfl (Or.inl ew_1485) (cShM_326 hsw11).1 (cShM_326 hsw11).2.1 (rShM_326_83 hsw11) ?_
            refine ea_iload (pc := 100) dX12_leaves_100 5 rfl ?_
            refine ea_aload_n (pc := 102) dX12_leaves_102 rfl 0 rfl ?_
            refine ea_getR (pc := 103) dX12_leaves_103 ec_12 (k := 21) (Nat.le_of_ble_eq_true rfl) rfl (Or.inl ew_1423) (cShM_326 hsw11).1 (cShM_326 hsw11).2.1 (rShM_326_21 hsw11) ?_
            refine ea_bipush (pc := 106) dX12_leaves_106 (v := 12) rfl ?_
            refine ea_iload_n (pc := 108) dX12_leaves_108 rfl 1 rfl ?_
            refine ea_imul (pc := 109) dX12_leaves_109 ?_
            refine ea_aload_n (pc := 110) dX12_leaves_110 rfl 0 rfl ?_
            refine ea_getR (pc := 111) dX12_leaves_111 ec_12 (k := 66) (Nat.le_of_ble_eq_true rfl) rfl (Or.inl ew_1468) (cShM_326 hsw11).1 (cShM_326 hsw11).2.1 (rShM_326_66 hsw11) ?_
            refine ea_iload (pc := 114) dX12_leaves_114 5 rfl ?_
            obtain ⟨z13, E⟩ := gd_some E
            refine ea_iald (pc := 116) dX12_leaves_116 (cShM_366 hsw11).1 (cShM_366 hsw11).2.1 (ea_vpl (cShM_366 hsw11).2.2 z12) ?_
            refine ea_iadd (pc := 117) dX12_leaves_117 ?_
            obtain ⟨z14, E⟩ := gd_some E
            refine ea_iald (pc := 118) dX12_leaves_118 (cShM_343 hsw11).1 (cShM_343 hsw11).2.1 (ea_vpl (cShM_343 hsw11).2.2 z13) ?_
            obtain ⟨H15, eH15, E⟩ := let_some E
            refine ea_iast (pc := 119) dX12_leaves_119 (cShM_383 hsw11).1 (cShM_383 hsw11).2.1 (ea_vpl (cShM_383 hsw11).2.2 z14) ?_
            refine ea_nm eH15 ?_
            have hsH15 : ShM H15 := by rw [eH15]; exact hsw11
            obtain ⟨z16, E⟩ := gd_some E
            refine ea_aload_n (pc := 120) dX12_leaves_120 rfl 0 rfl ?_
            refine ea_getR (pc := 121) dX12_leaves_121 ec_12 (k := 87) (Nat.le_of_ble_eq_true rfl) rfl (Or.inl ew_1489) (cShM_326 hsH15).1 (cShM_326 hsH15).2.1 (rShM_326_87 hsH15) ?_
            refine ea_iload (pc := 124) dX12_leaves_124 5 rfl ?_
            refine ea_iconst (pc := 126) dX12_leaves_126 (v := 0) rfl ?_
            obtain ⟨H17, eH17, E⟩ := let_some E
            refine ea_zast (pc := 127) dX12_leaves_127 (y := 0) (ea_bn (Or.inl rfl)) (cShM_387 hsH15).1 (cShM_387 hsH15).2.1 (ea_vpl (cShM_387 hsH15).2.2 z16) ?_
            refine ea_nm eH17 ?_
            have hsH17 : ShM H17 := by rw [eH17]; exact hsH15
            obtain ⟨z18, E⟩ := gd_some E
            refine ea_aload_n (pc := 128) dX12_leaves_128 rfl 0 rfl ?_
            refine ea_iload (pc := 129) dX12_leaves_129 5 rfl ?_
            refine ea_aload_n (pc := 131) dX12_leaves_131 rfl 0 rfl ?_
            refine ea_getR (pc := 132) dX12_leaves_132 ec_12 (k := 14) (Nat.le_of_ble_eq_true rfl) rfl (Or.inl ew_1416) (cShM_326 hsH17).1 (cShM_326 hsH17).2.1 (rShM_326_14 hsH17) ?_
            refine ea_iload_n (pc := 135) dX12_leaves_135 rfl 1 rfl ?_
            obtain ⟨w19, Ew19, E⟩ := bd_some E
            have hsw19 : ShM w19.2 := ShM_core ((kpX12_code _ _) _ Ew19) hsH17
            refine ea_iald (pc := 136) dX12_leaves_136 (cShM_336 hsH17).1 (cShM_336 hsH17).2.1 (ea_vpl (cShM_336 hsH17).2.2 z18) ?_
            refine ea_iconst (pc := 137) dX12_leaves_137 (v := 1) rfl ?_
            refine ea_iload_n (pc := 138) dX12_leaves_138 rfl 2 rfl ?_
            refine ea_callS (pc := 139) (d' := d - 1) (As := [vI x2]) (st := [vI 1, vI (ea_i H17 336 (Int32.toNatClampNeg x1)), vI x5, vR (some 326)]) dX12_leaves_139 kX12_code (sX12_code (d := d - 1) (by omega) Ew19) (by omega) rfl (Nat.le_of_ble_eq_true rfl) ew_2128 ew_2129 ?_
            obtain ⟨w20, Ew20, E⟩ := bd_some E
            have hsw20 : ShM w20.2 := ShM_core ((kpX12_turns _ _ _ _ _) _ Ew20) hsw19
            refine ea_callV (pc := 142) (d' := d - 1) (As := [vI x5, vI (ea_i H17 336 (Int32.toNatClampNeg x1)), vI 1, vI w19.1]) (st := []) dX12_leaves_142 kX12_turns (sX12_turns (d := d - 1) (by omega) hsw19 Ew20) (by omega) rfl (Nat.le_of_ble_eq_true rfl) ew_2068 ew_2070 ew_95 (ci := 12) rfl (by decide) (cShM_326 hsw19).1 (cShM_326 hsw19).2.1 ?_
            refine ea_iinc (pc := 145) (v := 1) (lv' := [(0, vR (some 326)), (1, vI x1), (2, vI x2), (3, vI x3), (4, vI x4), (5, vI (x5 + (1 : Int32)))]) dX12_leaves_145 5 rfl rfl (Nat.le_of_ble_eq_true rfl) [1, 2, 3, 4, 5, 0] rfl ?_
            refine ea_goto (pc := 148) (tgt := 25) dX12_leaves_148 rfl ?_
            exact (kJ25 (x1 : Int32) (x2 : Int32) (x3 : Int32) (x4 : Int32) ((x5 + (1 : Int32)) : Int32) w20.2 _ _ E hsw20)
          · have E := (if_neg c21).symm.trans E
            refine ea_goto (pc := 93) (tgt := 145) dX12_leaves_93 rfl ?_
            refine ea_iinc (pc := 145) (v := 1) (lv' := [(0, vR (some 326)), (1, vI x1), (2, vI x2), (3, vI x3), (4, vI x4), (5, vI (x5 + (1 : Int32)))]) dX12_leaves_145 5 rfl rfl (Nat.le_of_ble_eq_true rfl) [1, 2, 3, 4, 5, 0] rfl ?_
            refine ea_goto (pc := 148) (tgt := 25) dX12_leaves_148 rfl ?_
            exact (kJ25 (x1 : Int32) (x2 : Int32) (x3 : Int32) (x4 : Int32) ((x5 + (1 : Int32)) : Int32) w11.2 _ _ E hsw11)
set_option maxRecDepth 100000 in
set_option maxHeartbeats 0 in
theorem kBX12_leaves_25 {J25 : Int32 → Int32 → Int32 → Int32 → Int32 → ea_H → Option (Unit × ea_H)} {J151 : Int32 → Int32 → ea_H → Option (Unit × ea_H)}  (cJ25 : ∀ (x1 : Int32) (x2 : Int32) (x3 : Int32) (x4 : Int32) (x5 : Int32) (h : ea_H), kp (ea_core h) (J25 x1 x2 x3 x4 x5 h)) (cJ151 : ∀ (x2 : Int32) (x3 : Int32) (h : ea_H), kp (ea_core h) (J151 x2 x3 h)) {x1 : Int32} {x2 : Int32} {x3 : Int32} {x4 : Int32} {x5 : Int32} {h : ea_H} : kp (ea_core h) (BX12_leaves_25 J25 J151 x1 x2 x3 x4 x5 h) :=
  (kp_ite (kp_tw (cJ151 _ _ _) rfl) (kp_gd (kp_ite (kp_gd (kp_ite (kp_gd (kp_ite (kp_gd (kp_gd (kp_bind (kp_tw (kpX12_bestFrom _ _ _ _) rfl) fun w11 hcw11 => (kp_ite (kp_gd (kp_gd (kp_gd (kp_let (kp_gd (kp_let (kp_gd (kp_bind (kp_tw (kpX12_code _ _) hcw11) fun w19 hcw19 => (kp_bind (kp_tw (kpX12_turns _ _ _ _ _) hcw19) fun w20 hcw20 => (kp_tw (cJ25 _ _ _ _ _ _) hcw20)))))))))) (kp_tw (cJ25 _ _ _ _ _ _) hcw11))))) (kp_tw (cJ25 _ _ _ _ _ _) rfl))) (kp_tw (cJ25 _ _ _ _ _ _) rfl))) (kp_tw (cJ151 _ _ _) rfl))))
set_option maxRecDepth 100000 in
set_option maxHeartbeats 0 in
theorem lBX12_leaves_25 {J25 : Int32 → Int32 → Int32 → Int32 → Int32 → ea_H → Option (Unit × ea_H)} {J151 : Int32 → Int32 → ea_H → Option (Unit × ea_H)} {J25_ : Int32 → Int32 → Int32 → Int32 → Int32 → ea_H → Option (Unit × ea_H)} {J151_ : Int32 → Int32 → ea_H → Option (Unit × ea_H)}  (mJ25 : ∀ (x1 : Int32) (x2 : Int32) (x3 : Int32) (x4 : Int32) (x5 : Int32) (h : ea_H), fle (J25 x1 x2 x3 x4 x5 h) (J25_ x1 x2 x3 x4 x5 h)) (mJ151 : ∀ (x2 : Int32) (x3 : Int32) (h : ea_H), fle (J151 x2 x3 h) (J151_ x2 x3 h)) {x1 : Int32} {x2 : Int32} {x3 : Int32} {x4 : Int32} {x5 : Int32} {h : ea_H} : fle (BX12_leaves_25 J25 J151 x1 x2 x3 x4 x5 h) (BX12_leaves_25 J25_ J151_ x1 x2 x3 x4 x5 h) :=
  (fle_ite (mJ151 _ _ _) (fle_gd (fle_ite (fle_gd (fle_ite (fle_gd (fle_ite (fle_gd (fle_gd (fle_bind (fle_rfl _) fun _ => (fle_ite (fle_gd (fle_gd (fle_gd (fle_let fun _ => (fle_gd (fle_let fun _ => (fle_gd (fle_bind (fle_rfl _) fun _ => (fle_bind (fle_rfl _) fun _ => (mJ25 _ _ _ _ _ _)))))))))) (mJ25 _ _ _ _ _ _))))) (mJ25 _ _ _ _ _ _))) (mJ25 _ _ _ _ _ _))) (mJ151 _ _ _))))
set_option maxRecDepth 100000 in
set_option maxHeartbeats 0 in
theorem nBX12_leaves_25 {J25 : Int32 → Int32 → Int32 → Int32 → Int32 → ea_H → Option (Unit × ea_H)} {J151 : Int32 → Int32 → ea_H → Option (Unit × ea_H)} {J25_ : Nat → (Int32 → Int32 → Int32 → Int32 → Int32 → ea_H → Option (Unit × ea_H))} {J151_ : Nat → (Int32 → Int32 → ea_H → Option (Unit × ea_H))}  (mJ25 : ∀ (x1 : Int32) (x2 : Int32) (x3 : Int32) (x4 : Int32) (x5 : Int32) (h : ea_H), fct (J25 x1 x2 x3 x4 x5 h) (fun f => J25_ f x1 x2 x3 x4 x5 h)) (mJ151 : ∀ (x2 : Int32) (x3 : Int32) (h : ea_H), fct (J151 x2 x3 h) (fun f => J151_ f x2 x3 h)) {x1 : Int32} {x2 : Int32} {x3 : Int32} {x4 : Int32} {x5 : Int32} {h : ea_H} : fct (BX12_leaves_25 J25 J151 x1 x2 x3 x4 x5 h) (fun f => BX12_leaves_25 (J25_ f) (J151_ f) x1 x2 x3 x4 x5 h) :=
  (fct_ite (mJ151 _ _ _) (fct_gd (fct_ite (fct_gd (fct_ite (fct_gd (fct_ite (fct_gd (fct_gd (fct_bind (fct_rfl _) fun _ => (fct_ite (fct_gd (fct_gd (fct_gd (fct_let fun _ => (fct_gd (fct_let fun _ => (fct_gd (fct_bind (fct_rfl _) fun _ => (fct_bind (fct_rfl _) fun _ => (mJ25 _ _ _ _ _ _)))))))))) (mJ25 _ _ _ _ _ _))))) (mJ25 _ _ _ _ _ _))) (mJ25 _ _ _ _ _ _))) (mJ151 _ _ _))))
noncomputable def BX12_leaves_151 (J171 : Int32 → Int32 → Int32 → ea_H → Option (Unit × ea_H)) (x2 : Int32) (x3 : Int32) (h : ea_H) : Option (Unit × ea_H) :=
  (Option.bind (qX12_comesAt (x2 : Int32) ((x3 + (1 : Int32)) : Int32) h) fun w26 => (Option.bind (qX12_goesAt (x2 : Int32) (x3 : Int32) w26.2) fun w27 => (ea_let (w26.1 - w27.1) fun (v28 : Int32) => (J171 (x2 : Int32) (v28 : Int32) (0 : Int32) w27.2))))
set_option maxRecDepth 100000 in
set_option maxHeartbeats 0 in
theorem tBX12_leaves_151 {d : Nat} {h0 : ea_H} (hd : 6 ≤ d) {J171 : Int32 → Int32 → Int32 → ea_H → Option (Unit × ea_H)}  (kJ171 : ∀ (x2 : Int32) (x5 : Int32) (x6 : Int32) (h : ea_H) (r : Unit) (h' : ea_H), J171 x2 x5 x6 h = some (r, h') → ShM h → ea_W mX12_leaves d h0 none h' 171 [(0, vR (some 326)), (2, vI x2), (5, vI x5), (6, vI x6)] [] h) {x2 : Int32} {x3 : Int32} {h : ea_H} {r : Unit} {h' : ea_H} (E : BX12_leaves_151 J171 x2 x3 h = some (r, h')) (hs : ShM h) : ea_W mX12_leaves d h0 none h' 151 [(0, vR (some 326)), (2, vI x2), (3, vI x3)] [] h := by
  unfold BX12_leaves_151 at E
  obtain ⟨w26, Ew26, E⟩ := bd_some E
  have hsw26 : ShM w26.2 := ShM_core ((kpX12_comesAt _ _ _) _ Ew26) hs
  refine ea_aload_n (pc := 151) dX12_leaves_151 rfl 0 rfl ?_
  refine ea_iload_n (pc := 152) dX12_leaves_152 rfl 1 rfl ?_
  refine ea_iload_n (pc := 153) dX12_leaves_153 rfl 2 rfl ?_
  refine ea_iconst (pc := 154) dX12_leaves_154 (v := 1) rfl ?_
  refine ea_iadd (pc := 155) dX12_leaves_155 ?_
  refine ea_callV (pc := 156) (d' := d - 1) (As := [vI x2, vI (x3 + (1 : Int32))]) (st := []) dX12_leaves_156 kX12_comesAt (sX12_comesAt (d := d - 1) (by omega) hs Ew26) (by omega) rfl (Nat.le_of_ble_eq_true rfl) ew_1819 ew_1821 ew_59 (ci := 12) rfl (by decide) (cShM_326 hs).1 (cShM_326 hs).2.1 ?_
  obtain ⟨w27, Ew27, E⟩ := bd_some E
  have hsw27 : ShM w27.2 := ShM_core ((kpX12_goesAt _ _ _) _ Ew27) hsw26
  refine ea_aload_n (pc := 159) dX12_leaves_159 rfl 0 rfl ?_
  refine ea_iload_n (pc := 160) dX12_leaves_160 rfl 1 rfl ?_
  refine ea_iload_n (pc := 161) dX12_leaves_161 rfl 2 rfl ?_
  refine ea_callV (pc := 162) (d' := d - 1) (As := [vI x2, vI x3]) (st := [vI w26.1]) dX12_leaves_162 kX12_goesAt (sX12_goesAt (d := d - 1) (by omega) hsw26 Ew27) (by omega) rfl (Nat.le_of_ble_eq_true rfl) ew_1843 ew_1845 ew_64 (ci := 12) rfl (by decide) (cShM_326 hsw26).1 (cShM_326 hsw26).2.1 ?_
  obtain ⟨v28, ev28, E⟩ := let_some E
  refine ea_isub (pc := 165) dX12_leaves_165 ?_
  refine ea_istore (pc := 166) (lv' := [(0, vR (some 326)), (2, vI x2), (5, vI v28)]) dX12_leaves_166 (Nat.le_of_ble_eq_true rfl) [1, 2, 0] (by rw [ev28]; rfl) ?_
  refine ea_iconst (pc := 168) dX12_leaves_168 (v := 0) rfl ?_
  refine ea_istore (pc := 169) (lv' := [(0, vR (some 326)), (2, vI x2), (5, vI v28), (6, vI 0)]) dX12_leaves_169 (Nat.le_of_ble_eq_true rfl) [1, 2, 3, 0] rfl ?_
  exact (kJ171 (x2 : Int32) (v28 : Int32) (0 : Int32) w27.2 _ _ E hsw27)
set_option maxRecDepth 100000 in
set_option maxHeartbeats 0 in
theorem kBX12_leaves_151 {J171 : Int32 → Int32 → Int32 → ea_H → Option (Unit × ea_H)}  (cJ171 : ∀ (x2 : Int32) (x5 : Int32) (x6 : Int32) (h : ea_H), kp (ea_core h) (J171 x2 x5 x6 h)) {x2 : Int32} {x3 : Int32} {h : ea_H} : kp (ea_core h) (BX12_leaves_151 J171 x2 x3 h) :=
  (kp_bind (kp_tw (kpX12_comesAt _ _ _) rfl) fun w26 hcw26 => (kp_bind (kp_tw (kpX12_goesAt _ _ _) hcw26) fun w27 hcw27 => (kp_let (kp_tw (cJ171 _ _ _ _) hcw27))))
set_option maxRecDepth 100000 in
set_option maxHeartbeats 0 in
theorem lBX12_leaves_151 {J171 : Int32 → Int32 → Int32 → ea_H → Option (Unit × ea_H)} {J171_ : Int32 → Int32 → Int32 → ea_H → Option (Unit × ea_H)}  (mJ171 : ∀ (x2 : Int32) (x5 : Int32) (x6 : Int32) (h : ea_H), fle (J171 x2 x5 x6 h) (J171_ x2 x5 x6 h)) {x2 : Int32} {x3 : Int32} {h : ea_H} : fle (BX12_leaves_151 J171 x2 x3 h) (BX12_leaves_151 J171_ x2 x3 h) :=
  (fle_bind (fle_rfl _) fun _ => (fle_bind (fle_rfl _) fun _ => (fle_let fun _ => (mJ171 _ _ _ _))))
set_option maxRecDepth 100000 in
set_option maxHeartbeats 0 in
theorem nBX12_leaves_151 {J171 : Int32 → Int32 → Int32 → ea_H → Option (Unit × ea_H)} {J171_ : Nat → (Int32 → Int32 → Int32 → ea_H → Option (Unit × ea_H))}  (mJ171 : ∀ (x2 : Int32) (x5 : Int32) (x6 : Int32) (h : ea_H), fct (J171 x2 x5 x6 h) (fun f => J171_ f x2 x5 x6 h)) {x2 : Int32} {x3 : Int32} {h : ea_H} : fct (BX12_leaves_151 J171 x2 x3 h) (fun f => BX12_leaves_151 (J171_ f) x2 x3 h) :=
  (fct_bind (fct_rfl _) fun _ => (fct_bind (fct_rfl _) fun _ => (fct_let fun _ => (mJ171 _ _ _ _))))
noncomputable def BX12_leaves_171 (J171 : Int32 → Int32 → Int32 → ea_H → Option (Unit × ea_H)) (J224 : Int32 → Int32 → ea_H → Option (Unit × ea_H)) (x2 : Int32) (x5 : Int32) (x6 : Int32) (h : ea_H) : Option (Unit × ea_H) :=
  (if (ea_i h 326 92) ≤ x6 then (J224 (x2 : Int32) (0 : Int32) h) else (gd (vp_in x6 8) (if (ea_i h 394 (Int32.toNatClampNeg x6)) = (x2 / (7 : Int32)) then (gd (vp_in x6 8) (gd (vp_in x6 8) (ea_let (ea_wi h 395 (Int32.toNatClampNeg x6) ((ea_i h 392 (Int32.toNatClampNeg x6)) * x5)) fun H34 => (J171 (x2 : Int32) (x5 : Int32) ((x6 + (1 : Int32)) : Int32) H34)))) else (gd (vp_in x6 8) (ea_let (ea_wi h 395 (Int32.toNatClampNeg x6) 0) fun H31 => (J171 (x2 : Int32) (x5 : Int32) ((x6 + (1 : Int32)) : Int32) H31))))))
set_option maxRecDepth 100000 in
set_option maxHeartbeats 0 in
theorem tBX12_leaves_171 {d : Nat} {h0 : ea_H} (hd : 6 ≤ d) {J171 : Int32 → Int32 → Int32 → ea_H → Option (Unit × ea_H)} {J224 : Int32 → Int32 → ea_H → Option (Unit × ea_H)}  (kJ171 : ∀ (x2 : Int32) (x5 : Int32) (x6 : Int32) (h : ea_H) (r : Unit) (h' : ea_H), J171 x2 x5 x6 h = some (r, h') → ShM h → ea_W mX12_leaves d h0 none h' 171 [(0, vR (some 326)), (2, vI x2), (5, vI x5), (6, vI x6)] [] h) (kJ224 : ∀ (x2 : Int32) (x6 : Int32) (h : ea_H) (r : Unit) (h' : ea_H), J224 x2 x6 h = some (r, h') → ShM h → ea_W mX12_leaves d h0 none h' 224 [(0, vR (some 326)), (2, vI x2), (6, vI x6)] [] h) {x2 : Int32} {x5 : Int32} {x6 : Int32} {h : ea_H} {r : Unit} {h' : ea_H} (E : BX12_leaves_171 J171 J224 x2 x5 x6 h = some (r, h')) (hs : ShM h) : ea_W mX12_leaves d h0 none h' 171 [(0, vR (some 326)), (2, vI x2), (5, vI x5), (6, vI x6)] [] h := by
  unfold BX12_leaves_171 at E
  refine ea_iload (pc := 171) dX12_leaves_171 3 rfl ?_
  refine ea_aload_n (pc := 173) dX12_leaves_173 rfl 0 rfl ?_
  refine ea_getI (pc := 174) dX12_leaves_174 ec_12 (k := 92) (Nat.le_of_ble_eq_true rfl) rfl (Or.inl ew_1494) (cShM_326 hs).1 (cShM_326 hs).2.1 ?_
  refine ea_icmp_ge (pc := 177) (tgt := 221) dX12_leaves_177 rfl (fun c36 => ?_) (fun c36 => ?_)
  · have E := (if_pos c36).symm.trans E
    refine ea_iconst (pc := 221) dX12_leaves_221 (v := 0) rfl ?_
    refine ea_istore (pc := 222) (lv' := [(0, vR (some 326)), (2, vI x2), (6, vI 0)]) dX12_leaves_222 (Nat.le_of_ble_eq_true rfl) [1, 2, 0] rfl ?_
    exact (kJ224 (x2 : Int32) (0 : Int32) h _ _ E hs)
  · have E := (if_neg c36).symm.trans E
    obtain ⟨z29, E⟩ := gd_some E
    refine ea_aload_n (pc := 180) dX12_leaves_180 rfl 0 rfl ?_
    refine ea_getR (pc := 181) dX12_leaves_181 ec_12 (k := 96) (Nat.le_of_ble_eq_true rfl) rfl (Or.inl ew_1498) (cShM_326 hs).1 (cShM_326 hs).2.1 (rShM_326_96 hs) ?_
    refine ea_iload (pc := 184) dX12_leaves_184 3 rfl ?_
    refine ea_aload_n (pc := 186) dX12_leaves_186 rfl 0 rfl ?_
    refine ea_getR (pc := 187) dX12_leaves_187 ec_12 (k := 95) (Nat.le_of_ble_eq_true rfl) rfl (Or.inl ew_1497) (cShM_326 hs).1 (cShM_326 hs).2.1 (rShM_326_95 hs) ?_
    refine ea_iload (pc := 190) dX12_leaves_190 3 rfl ?_
    refine ea_iald (pc := 192) dX12_leaves_192 (cShM_394 hs).1 (cShM_394 hs).2.1 (ea_vpl (cShM_394 hs).2.2 z29) ?_
    refine ea_iload_n (pc := 193) dX12_leaves_193 rfl 1 rfl ?_
    refine ea_bipush (pc := 194) dX12_leaves_194 (v := 7) rfl ?_
    refine ea_idiv (pc := 196) dX12_leaves_196 (by decide) ?_
    refine ea_icmp_ne (pc := 197) (tgt := 213) dX12_leaves_197 rfl (fun c35 => ?_) (fun c35 => ?_)
    · have E := (if_neg c35).symm.trans E
      obtain ⟨z30, E⟩ := gd_some E
      refine ea_iconst (pc := 213) dX12_leaves_213 (v := 0) rfl ?_
      obtain ⟨H31, eH31, E⟩ := let_some E
      refine ea_iast (pc := 214) dX12_leaves_214 (cShM_395 hs).1 (cShM_395 hs).2.1 (ea_vpl (cShM_395 hs).2.2 z30) ?_
      refine ea_nm eH31 ?_
      have hsH31 : ShM H31 := by rw [eH31]; exact hs
      refine ea_iinc (pc := 215) (v := 1) (lv' := [(0, vR (some 326)), (2, vI x2), (5, vI x5), (6, vI (x6 + (1 : Int32)))]) dX12_leaves_215 3 rfl rfl (Nat.le_of_ble_eq_true rfl) [1, 2, 3, 0] rfl ?_
      refine ea_goto (pc := 218) (tgt := 171) dX12_leaves_218 rfl ?_
      exact (kJ171 (x2 : Int32) (x5 : Int32) ((x6 + (1 : Int32)) : Int32) H31 _ _ E hsH31)
    · have E := (if_pos c35).symm.trans E
      obtain ⟨z32, E⟩ := gd_some E
      refine ea_aload_n (pc := 200) dX12_leaves_200 rfl 0 rfl ?_
      refine ea_getR (pc := 201) dX12_leaves_201 ec_12 (k := 93) (Nat.le_of_ble_eq_true rfl) rfl (Or.inl ew_1495) (cShM_326 hs).1 (cShM_326 hs).2.1 (rShM_326_93 hs) ?_
      refine ea_iload (pc := 204) dX12_leaves_204 3 rfl ?_
      obtain ⟨z33, E⟩ := gd_some E
      refine ea_iald (pc := 206) dX12_leaves_206 (cShM_392 hs).1 (cShM_392 hs).2.1 (ea_vpl (cShM_392 hs).2.2 z32) ?_
      refine ea_iload (pc := 207) dX12_leaves_207 2 rfl ?_
      refine ea_imul (pc := 209) dX12_leaves_209 ?_
      refine ea_goto (pc := 210) (tgt := 214) dX12_leaves_210 rfl ?_
      obtain ⟨H34, eH34, E⟩ := let_some E
      refine ea_iast (pc := 214) dX12_leaves_214 (cShM_395 hs).1 (cShM_395 hs).2.1 (ea_vpl (cShM_395 hs).2.2 z33) ?_
      refine ea_nm eH34 ?_
      have hsH34 : ShM H34 := by rw [eH34]; exact hs
      refine ea_iinc (pc := 215) (v := 1) (lv' := [(0, vR (some 326)), (2, vI x2), (5, vI x5), (6, vI (x6 + (1 : Int32)))]) dX12_leaves_215 3 rfl rfl (Nat.le_of_ble_eq_true rfl) [1, 2, 3, 0] rfl ?_
      refine ea_goto (pc := 218) (tgt := 171) dX12_leaves_218 rfl ?_
      exact (kJ171 (x2 : Int32) (x5 : Int32) ((x6 + (1 : Int32)) : Int32) H34 _ _ E hsH34)
set_option maxRecDepth 100000 in
set_option maxHeartbeats 0 in
theorem kBX12_leaves_171 {J171 : Int32 → Int32 → Int32 → ea_H → Option (Unit × ea_H)} {J224 : Int32 → Int32 → ea_H → Option (Unit × ea_H)}  (cJ171 : ∀ (x2 : Int32) (x5 : Int32) (x6 : Int32) (h : ea_H), kp (ea_core h) (J171 x2 x5 x6 h)) (cJ224 : ∀ (x2 : Int32) (x6 : Int32) (h : ea_H), kp (ea_core h) (J224 x2 x6 h)) {x2 : Int32} {x5 : Int32} {x6 : Int32} {h : ea_H} : kp (ea_core h) (BX12_leaves_171 J171 J224 x2 x5 x6 h) :=
  (kp_ite (kp_tw (cJ224 _ _ _) rfl) (kp_gd (kp_ite (kp_gd (kp_gd (kp_let (kp_tw (cJ171 _ _ _ _) rfl)))) (kp_gd (kp_let (kp_tw (cJ171 _ _ _ _) rfl))))))
set_option maxRecDepth 100000 in
set_option maxHeartbeats 0 in
theorem lBX12_leaves_171 {J171 : Int32 → Int32 → Int32 → ea_H → Option (Unit × ea_H)} {J224 : Int32 → Int32 → ea_H → Option (Unit × ea_H)} {J171_ : Int32 → Int32 → Int32 → ea_H → Option (Unit × ea_H)} {J224_ : Int32 → Int32 → ea_H → Option (Unit × ea_H)}  (mJ171 : ∀ (x2 : Int32) (x5 : Int32) (x6 : Int32) (h : ea_H), fle (J171 x2 x5 x6 h) (J171_ x2 x5 x6 h)) (mJ224 : ∀ (x2 : Int32) (x6 : Int32) (h : ea_H), fle (J224 x2 x6 h) (J224_ x2 x6 h)) {x2 : Int32} {x5 : Int32} {x6 : Int32} {h : ea_H} : fle (BX12_leaves_171 J171 J224 x2 x5 x6 h) (BX12_leaves_171 J171_ J224_ x2 x5 x6 h) :=
  (fle_ite (mJ224 _ _ _) (fle_gd (fle_ite (fle_gd (fle_gd (fle_let fun _ => (mJ171 _ _ _ _)))) (fle_gd (fle_let fun _ => (mJ171 _ _ _ _))))))
set_option maxRecDepth 100000 in
set_option maxHeartbeats 0 in
theorem nBX12_leaves_171 {J171 : Int32 → Int32 → Int32 → ea_H → Option (Unit × ea_H)} {J224 : Int32 → Int32 → ea_H → Option (Unit × ea_H)} {J171_ : Nat → (Int32 → Int32 → Int32 → ea_H → Option (Unit × ea_H))} {J224_ : Nat → (Int32 → Int32 → ea_H → Option (Unit × ea_H))}  (mJ171 : ∀ (x2 : Int32) (x5 : Int32) (x6 : Int32) (h : ea_H), fct (J171 x2 x5 x6 h) (fun f => J171_ f x2 x5 x6 h)) (mJ224 : ∀ (x2 : Int32) (x6 : Int32) (h : ea_H), fct (J224 x2 x6 h) (fun f => J224_ f x2 x6 h)) {x2 : Int32} {x5 : Int32} {x6 : Int32} {h : ea_H} : fct (BX12_leaves_171 J171 J224 x2 x5 x6 h) (fun f => BX12_leaves_171 (J171_ f) (J224_ f) x2 x5 x6 h) :=
  (fct_ite (mJ224 _ _ _) (fct_gd (fct_ite (fct_gd (fct_gd (fct_let fun _ => (mJ171 _ _ _ _)))) (fct_gd (fct_let fun _ => (mJ171 _ _ _ _))))))
noncomputable def BX12_leaves_224 (J234 : Int32 → Int32 → Int32 → ea_H → Option (Unit × ea_H)) (x2 : Int32) (x6 : Int32) (h : ea_H) : Option (Unit × ea_H) :=
  (if (8 : Int32) ≤ x6 then (some ((), h)) else (J234 (x2 : Int32) (x6 : Int32) (0 : Int32) h))
set_option maxRecDepth 100000 in
set_option maxHeartbeats 0 in
theorem tBX12_leaves_224 {d : Nat} {h0 : ea_H} (hd : 6 ≤ d) {J234 : Int32 → Int32 → Int32 → ea_H → Option (Unit × ea_H)}  (kJ234 : ∀ (x2 : Int32) (x6 : Int32) (x7 : Int32) (h : ea_H) (r : Unit) (h' : ea_H), J234 x2 x6 x7 h = some (r, h') → ShM h → ea_W mX12_leaves d h0 none h' 234 [(0, vR (some 326)), (2, vI x2), (6, vI x6), (7, vI x7)] [] h) {x2 : Int32} {x6 : Int32} {h : ea_H} {r : Unit} {h' : ea_H} (E : BX12_leaves_224 J234 x2 x6 h = some (r, h')) (hs : ShM h) : ea_W mX12_leaves d h0 none h' 224 [(0, vR (some 326)), (2, vI x2), (6, vI x6)] [] h := by
  unfold BX12_leaves_224 at E
  refine ea_iload (pc := 224) dX12_leaves_224 2 rfl ?_
  refine ea_bipush (pc := 226) dX12_leaves_226 (v := 8) rfl ?_
  refine ea_icmp_ge (pc := 228) (tgt := 300) dX12_leaves_228 rfl (fun c37 => ?_) (fun c37 => ?_)
  · have E := (if_pos c37).symm.trans E
    exact ea_vretO (pc := 300) dX12_leaves_300 rfl E
  · have E := (if_neg c37).symm.trans E
    refine ea_iconst (pc := 231) dX12_leaves_231 (v := 0) rfl ?_
    refine ea_istore (pc := 232) (lv' := [(0, vR (some 326)), (2, vI x2), (6, vI x6), (7, vI 0)]) dX12_leaves_232 (Nat.le_of_ble_eq_true rfl) [1, 2, 3, 0] rfl ?_
    exact (kJ234 (x2 : Int32) (x6 : Int32) (0 : Int32) h _ _ E hs)
set_option maxRecDepth 100000 in
set_option maxHeartbeats 0 in
theorem kBX12_leaves_224 {J234 : Int32 → Int32 → Int32 → ea_H → Option (Unit × ea_H)}  (cJ234 : ∀ (x2 : Int32) (x6 : Int32) (x7 : Int32) (h : ea_H), kp (ea_core h) (J234 x2 x6 x7 h)) {x2 : Int32} {x6 : Int32} {h : ea_H} : kp (ea_core h) (BX12_leaves_224 J234 x2 x6 h) :=
  (kp_ite (kp_ret rfl) (kp_tw (cJ234 _ _ _ _) rfl))
set_option maxRecDepth 100000 in
set_option maxHeartbeats 0 in
theorem lBX12_leaves_224 {J234 : Int32 → Int32 → Int32 → ea_H → Option (Unit × ea_H)} {J234_ : Int32 → Int32 → Int32 → ea_H → Option (Unit × ea_H)}  (mJ234 : ∀ (x2 : Int32) (x6 : Int32) (x7 : Int32) (h : ea_H), fle (J234 x2 x6 x7 h) (J234_ x2 x6 x7 h)) {x2 : Int32} {x6 : Int32} {h : ea_H} : fle (BX12_leaves_224 J234 x2 x6 h) (BX12_leaves_224 J234_ x2 x6 h) :=
  (fle_ite (fle_rfl _) (mJ234 _ _ _ _))
set_option maxRecDepth 100000 in
set_option maxHeartbeats 0 in
theorem nBX12_leaves_224 {J234 : Int32 → Int32 → Int32 → ea_H → Option (Unit × ea_H)} {J234_ : Nat → (Int32 → Int32 → Int32 → ea_H → Option (Unit × ea_H))}  (mJ234 : ∀ (x2 : Int32) (x6 : Int32) (x7 : Int32) (h : ea_H), fct (J234 x2 x6 x7 h) (fun f => J234_ f x2 x6 x7 h)) {x2 : Int32} {x6 : Int32} {h : ea_H} : fct (BX12_leaves_224 J234 x2 x6 h) (fun f => BX12_leaves_224 (J234_ f) x2 x6 h) :=
  (fct_ite (fct_rfl _) (mJ234 _ _ _ _))
noncomputable def BX12_leaves_234 (J224 : Int32 → Int32 → ea_H → Option (Unit × ea_H)) (J234 : Int32 → Int32 → Int32 → ea_H → Option (Unit × ea_H)) (x2 : Int32) (x6 : Int32) (x7 : Int32) (h : ea_H) : Option (Unit × ea_H) :=
  (if (ea_i h 326 63) ≤ x7 then (J224 (x2 : Int32) ((x6 + (1 : Int32)) : Int32) h) else (Option.bind (qX12_isAboard (x7 : Int32) (x2 : Int32) h) fun w38 => (if w38.1 = (0 : Int32) then (J234 (x2 : Int32) (x6 : Int32) ((x7 + (1 : Int32)) : Int32) w38.2) else (gd (vp_in x7 120) (if (ea_i w38.2 387 (Int32.toNatClampNeg x7)) = (0 : Int32) then (gd (vp_in x7 120) (if (ea_i w38.2 383 (Int32.toNatClampNeg x7)) = x6 then (Option.bind (qX12_townOf (x2 : Int32) (x6 : Int32) w38.2) fun w41 => (Option.bind (qX12_sorts (x7 : Int32) (w41.1 : Int32) w41.2) fun w42 => (J234 (x2 : Int32) (x6 : Int32) ((x7 + (1 : Int32)) : Int32) w42.2))) else (J234 (x2 : Int32) (x6 : Int32) ((x7 + (1 : Int32)) : Int32) w38.2))) else (J234 (x2 : Int32) (x6 : Int32) ((x7 + (1 : Int32)) : Int32) w38.2))))))
set_option maxRecDepth 100000 in
set_option maxHeartbeats 0 in
theorem tBX12_leaves_234 {d : Nat} {h0 : ea_H} (hd : 6 ≤ d) {J224 : Int32 → Int32 → ea_H → Option (Unit × ea_H)} {J234 : Int32 → Int32 → Int32 → ea_H → Option (Unit × ea_H)}  (kJ224 : ∀ (x2 : Int32) (x6 : Int32) (h : ea_H) (r : Unit) (h' : ea_H), J224 x2 x6 h = some (r, h') → ShM h → ea_W mX12_leaves d h0 none h' 224 [(0, vR (some 326)), (2, vI x2), (6, vI x6)] [] h) (kJ234 : ∀ (x2 : Int32) (x6 : Int32) (x7 : Int32) (h : ea_H) (r : Unit) (h' : ea_H), J234 x2 x6 x7 h = some (r, h') → ShM h → ea_W mX12_leaves d h0 none h' 234 [(0, vR (some 326)), (2, vI x2), (6, vI x6), (7, vI x7)] [] h) {x2 : Int32} {x6 : Int32} {x7 : Int32} {h : ea_H} {r : Unit} {h' : ea_H} (E : BX12_leaves_234 J224 J234 x2 x6 x7 h = some (r, h')) (hs : ShM h) : ea_W mX12_leaves d h0 none h' 234 [(0, vR (some 326)), (2, vI x2), (6, vI x6), (7, vI x7)] [] h := by
  unfold BX12_leaves_234 at E
  refine ea_iload (pc := 234) dX12_leaves_234 3 rfl ?_
  refine ea_aload_n (pc := 236) dX12_leaves_236 rfl 0 rfl ?_
  refine ea_getI (pc := 237) dX12_leaves_237 ec_12 (k := 63) (Nat.le_of_ble_eq_true rfl) rfl (Or.inl ew_1465) (cShM_326 hs).1 (cShM_326 hs).2.1 ?_
  refine ea_icmp_ge (pc := 240) (tgt := 294) dX12_leaves_240 rfl (fun c46 => ?_) (fun c46 => ?_)
  · have E := (if_pos c46).symm.trans E
    refine ea_iinc (pc := 294) (v := 1) (lv' := [(0, vR (some 326)), (2, vI x2), (6, vI (x6 + (1 : Int32)))]) dX12_leaves_294 2 rfl rfl (Nat.le_of_ble_eq_true rfl) [1, 2, 0] rfl ?_
    refine ea_goto (pc := 297) (tgt := 224) dX12_leaves_297 rfl ?_
    exact (kJ224 (x2 : Int32) ((x6 + (1 : Int32)) : Int32) h _ _ E hs)
  · have E := (if_neg c46).symm.trans E
    obtain ⟨w38, Ew38, E⟩ := bd_some E
    have hsw38 : ShM w38.2 := ShM_core ((kpX12_isAboard _ _ _) _ Ew38) hs
    refine ea_aload_n (pc := 243) dX12_leaves_243 rfl 0 rfl ?_
    refine ea_iload (pc := 244) dX12_leaves_244 3 rfl ?_
    refine ea_iload_n (pc := 246) dX12_leaves_246 rfl 1 rfl ?_
    refine ea_callV (pc := 247) (d' := d - 1) (As := [vI x7, vI x2]) (st := []) dX12_leaves_247 kX12_isAboard (sX12_isAboard (d := d - 1) (by omega) hs Ew38) (by omega) rfl (Nat.le_of_ble_eq_true rfl) ew_2124 ew_2126 ew_102 (ci := 12) rfl (by decide) (cShM_326 hs).1 (cShM_326 hs).2.1 ?_
    refine ea_if_eq (pc := 250) (tgt := 288) dX12_leaves_250 rfl (fun c45 => ?_) (fun c45 => ?_)
    · have E := (if_pos c45).symm.trans E
      refine ea_iinc (pc := 288) (v := 1) (lv' := [(0, vR (some 326)), (2, vI x2), (6, vI x6), (7, vI (x7 + (1 : Int32)))]) dX12_leaves_288 3 rfl rfl (Nat.le_of_ble_eq_true rfl) [1, 2, 3, 0] rfl ?_
      refine ea_goto (pc := 291) (tgt := 234) dX12_leaves_291 rfl ?_
      exact (kJ234 (x2 : Int32) (x6 : Int32) ((x7 + (1 : Int32)) : Int32) w38.2 _ _ E hsw38)
    · have E := (if_neg c45).symm.trans E
      obtain ⟨z39, E⟩ := gd_some E
      refine ea_aload_n (pc := 253) dX12_leaves_253 rfl 0 rfl ?_
      refine ea_getR (pc := 254) dX12_leaves_254 ec_12 (k := 87) (Nat.le_of_ble_eq_true rfl) rfl (Or.inl ew_1489) (cShM_326 hsw38).1 (cShM_326 hsw38).2.1 (rShM_326_87 hsw38) ?_
      refine ea_iload (pc := 257) dX12_leaves_257 3 rfl ?_
      refine ea_zald (pc := 259) dX12_leaves_259 (cShM_387 hsw38).1 (cShM_387 hsw38).2.1 (ea_vpl (cShM_387 hsw38).2.2 z39) ?_
      refine ea_if_ne (pc := 260) (tgt := 288) dX12_leaves_260 rfl (fun c44 => ?_) (fun c44 => ?_)
      · have E := (if_neg c44).symm.trans E
        refine ea_iinc (pc := 288) (v := 1) (lv' := [(0, vR (some 326)), (2, vI x2), (6, vI x6), (7, vI (x7 + (1 : Int32)))]) dX12_leaves_288 3 rfl rfl (Nat.le_of_ble_eq_true rfl) [1, 2, 3, 0] rfl ?_
        refine ea_goto (pc := 291) (tgt := 234) dX12_leaves_291 rfl ?_
        exact (kJ234 (x2 : Int32) (x6 : Int32) ((x7 + (1 : Int32)) : Int32) w38.2 _ _ E hsw38)
      · have E := (if_pos c44).symm.trans E
        obtain ⟨z40, E⟩ := gd_some E
        refine ea_aload_n (pc := 263) dX12_leaves_263 rfl 0 rfl ?_
        refine ea_getR (pc := 264) dX12_leaves_264 ec_12 (k := 83) (Nat.le_of_ble_eq_true rfl) rfl (Or.inl ew_1485) (cShM_326 hsw38).1 (cShM_326 hsw38).2.1 (rShM_326_83 hsw38) ?_
        refine ea_iload (pc := 267) dX12_leaves_267 3 rfl ?_
        refine ea_iald (pc := 269) dX12_leaves_269 (cShM_383 hsw38).1 (cShM_383 hsw38).2.1 (ea_vpl (cShM_383 hsw38).2.2 z40) ?_
        refine ea_iload (pc := 270) dX12_leaves_270 2 rfl ?_
        refine ea_icmp_ne (pc := 272) (tgt := 288) dX12_leaves_272 rfl (fun c43 => ?_) (fun c43 => ?_)
        · have E := (if_neg c43).symm.trans E
          refine ea_iinc (pc := 288) (v := 1) (lv' := [(0, vR (some 326)), (2, vI x2), (6, vI x6), (7, vI (x7 + (1 : Int32)))]) dX12_leaves_288 3 rfl rfl (Nat.le_of_ble_eq_true rfl) [1, 2, 3, 0] rfl ?_
          refine ea_goto (pc := 291) (tgt := 234) dX12_leaves_291 rfl ?_
          exact (kJ234 (x2 : Int32) (x6 : Int32) ((x7 + (1 : Int32)) : Int32) w38.2 _ _ E hsw38)
        · have E := (if_pos c43).symm.trans E
          obtain ⟨w41, Ew41, E⟩ := bd_some E
          have hsw41 : ShM w41.2 := ShM_core ((kpX12_townOf _ _ _) _ Ew41) hsw38
          refine ea_aload_n (pc := 275) dX12_leaves_275 rfl 0 rfl ?_
          refine ea_iload (pc := 276) dX12_leaves_276 3 rfl ?_
          refine ea_aload_n (pc := 278) dX12_leaves_278 rfl 0 rfl ?_
          refine ea_iload_n (pc := 279) dX12_leaves_279 rfl 1 rfl ?_
          refine ea_iload (pc := 280) dX12_leaves_280 2 rfl ?_
          refine ea_callV (pc := 282) (d' := d - 1) (As := [vI x2, vI x6]) (st := [vI x7, vR (some 326)]) dX12_leaves_282 kX12_townOf (sX12_townOf (d := d - 1) (by omega) hsw38 Ew41) (by omega) rfl (Nat.le_of_ble_eq_true rfl) ew_1855 ew_1857 ew_67 (ci := 12) rfl (by decide) (cShM_326 hsw38).1 (cShM_326 hsw38).2.1 ?_
          obtain ⟨w42, Ew42, E⟩ := bd_some E
          have hsw42 : ShM w42.2 := ShM_core ((kpX12_sorts _ _ _) _ Ew42) hsw41
          refine ea_callV (pc := 285) (d' := d - 1) (As := [vI x7, vI w41.1]) (st := []) dX12_leaves_285 kX12_sorts (sX12_sorts (d := d - 1) (by omega) hsw41 Ew42) (by omega) rfl (Nat.le_of_ble_eq_true rfl) ew_2139 ew_2141 ew_105 (ci := 12) rfl (by decide) (cShM_326 hsw41).1 (cShM_326 hsw41).2.1 ?_
          refine ea_iinc (pc := 288) (v := 1) (lv' := [(0, vR (some 326)), (2, vI x2), (6, vI x6), (7, vI (x7 + (1 : Int32)))]) dX12_leaves_288 3 rfl rfl (Nat.le_of_ble_eq_true rfl) [1, 2, 3, 0] rfl ?_
          refine ea_goto (pc := 291) (tgt := 234) dX12_leaves_291 rfl ?_
          exact (kJ234 (x2 : Int32) (x6 : Int32) ((x7 + (1 : Int32)) : Int32) w42.2 _ _ E hsw42)
set_option maxRecDepth 100000 in
set_option maxHeartbeats 0 in
theorem kBX12_leaves_234 {J224 : Int32 → Int32 → ea_H → Option (Unit × ea_H)} {J234 : Int32 → Int32 → Int32 → ea_H → Option (Unit × ea_H)}  (cJ224 : ∀ (x2 : Int32) (x6 : Int32) (h : ea_H), kp (ea_core h) (J224 x2 x6 h)) (cJ234 : ∀ (x2 : Int32) (x6 : Int32) (x7 : Int32) (h : ea_H), kp (ea_core h) (J234 x2 x6 x7 h)) {x2 : Int32} {x6 : Int32} {x7 : Int32} {h : ea_H} : kp (ea_core h) (BX12_leaves_234 J224 J234 x2 x6 x7 h) :=
  (kp_ite (kp_tw (cJ224 _ _ _) rfl) (kp_bind (kp_tw (kpX12_isAboard _ _ _) rfl) fun w38 hcw38 => (kp_ite (kp_tw (cJ234 _ _ _ _) hcw38) (kp_gd (kp_ite (kp_gd (kp_ite (kp_bind (kp_tw (kpX12_townOf _ _ _) hcw38) fun w41 hcw41 => (kp_bind (kp_tw (kpX12_sorts _ _ _) hcw41) fun w42 hcw42 => (kp_tw (cJ234 _ _ _ _) hcw42))) (kp_tw (cJ234 _ _ _ _) hcw38))) (kp_tw (cJ234 _ _ _ _) hcw38))))))
set_option maxRecDepth 100000 in
set_option maxHeartbeats 0 in
theorem lBX12_leaves_234 {J224 : Int32 → Int32 → ea_H → Option (Unit × ea_H)} {J234 : Int32 → Int32 → Int32 → ea_H → Option (Unit × ea_H)} {J224_ : Int32 → Int32 → ea_H → Option (Unit × ea_H)} {J234_ : Int32 → Int32 → Int32 → ea_H → Option (Unit × ea_H)}  (mJ224 : ∀ (x2 : Int32) (x6 : Int32) (h : ea_H), fle (J224 x2 x6 h) (J224_ x2 x6 h)) (mJ234 : ∀ (x2 : Int32) (x6 : Int32) (x7 : Int32) (h : ea_H), fle (J234 x2 x6 x7 h) (J234_ x2 x6 x7 h)) {x2 : Int32} {x6 : Int32} {x7 : Int32} {h : ea_H} : fle (BX12_leaves_234 J224 J234 x2 x6 x7 h) (BX12_leaves_234 J224_ J234_ x2 x6 x7 h) :=
  (fle_ite (mJ224 _ _ _) (fle_bind (fle_rfl _) fun _ => (fle_ite (mJ234 _ _ _ _) (fle_gd (fle_ite (fle_gd (fle_ite (fle_bind (fle_rfl _) fun _ => (fle_bind (fle_rfl _) fun _ => (mJ234 _ _ _ _))) (mJ234 _ _ _ _))) (mJ234 _ _ _ _))))))
set_option maxRecDepth 100000 in
set_option maxHeartbeats 0 in
theorem nBX12_leaves_234 {J224 : Int32 → Int32 → ea_H → Option (Unit × ea_H)} {J234 : Int32 → Int32 → Int32 → ea_H → Option (Unit × ea_H)} {J224_ : Nat → (Int32 → Int32 → ea_H → Option (Unit × ea_H))} {J234_ : Nat → (Int32 → Int32 → Int32 → ea_H → Option (Unit × ea_H))}  (mJ224 : ∀ (x2 : Int32) (x6 : Int32) (h : ea_H), fct (J224 x2 x6 h) (fun f => J224_ f x2 x6 h)) (mJ234 : ∀ (x2 : Int32) (x6 : Int32) (x7 : Int32) (h : ea_H), fct (J234 x2 x6 x7 h) (fun f => J234_ f x2 x6 x7 h)) {x2 : Int32} {x6 : Int32} {x7 : Int32} {h : ea_H} : fct (BX12_leaves_234 J224 J234 x2 x6 x7 h) (fun f => BX12_leaves_234 (J224_ f) (J234_ f) x2 x6 x7 h) :=
  (fct_ite (mJ224 _ _ _) (fct_bind (fct_rfl _) fun _ => (fct_ite (mJ234 _ _ _ _) (fct_gd (fct_ite (fct_gd (fct_ite (fct_bind (fct_rfl _) fun _ => (fct_bind (fct_rfl _) fun _ => (mJ234 _ _ _ _))) (mJ234 _ _ _ _))) (mJ234 _ _ _ _))))))
noncomputable def gX12_leaves : Nat → (Int32 → ea_H → Option (Unit × ea_H)) × (Int32 → Int32 → Int32 → Int32 → Int32 → ea_H → Option (Unit × ea_H)) × (Int32 → Int32 → ea_H → Option (Unit × ea_H)) × (Int32 → Int32 → Int32 → ea_H → Option (Unit × ea_H)) × (Int32 → Int32 → ea_H → Option (Unit × ea_H)) × (Int32 → Int32 → Int32 → ea_H → Option (Unit × ea_H))
  | 0 => (fun _ _ => none, fun _ _ _ _ _ _ => none, fun _ _ _ => none, fun _ _ _ _ => none, fun _ _ _ => none, fun _ _ _ _ => none)
  | f + 1 => (BX12_leaves_0 (gX12_leaves f).2.1, BX12_leaves_25 (gX12_leaves f).2.1 (gX12_leaves f).2.2.1, BX12_leaves_151 (gX12_leaves f).2.2.2.1, BX12_leaves_171 (gX12_leaves f).2.2.2.1 (gX12_leaves f).2.2.2.2.1, BX12_leaves_224 (gX12_leaves f).2.2.2.2.2, BX12_leaves_234 (gX12_leaves f).2.2.2.2.1 (gX12_leaves f).2.2.2.2.2)
theorem mgX12_leaves : ∀ f : Nat, (∀ (x1 : Int32) (h : ea_H), fle ((gX12_leaves f).1 x1 h) ((gX12_leaves (f + 1)).1 x1 h)) ∧ (∀ (x1 : Int32) (x2 : Int32) (x3 : Int32) (x4 : Int32) (x5 : Int32) (h : ea_H), fle ((gX12_leaves f).2.1 x1 x2 x3 x4 x5 h) ((gX12_leaves (f + 1)).2.1 x1 x2 x3 x4 x5 h)) ∧ (∀ (x2 : Int32) (x3 : Int32) (h : ea_H), fle ((gX12_leaves f).2.2.1 x2 x3 h) ((gX12_leaves (f + 1)).2.2.1 x2 x3 h)) ∧ (∀ (x2 : Int32) (x5 : Int32) (x6 : Int32) (h : ea_H), fle ((gX12_leaves f).2.2.2.1 x2 x5 x6 h) ((gX12_leaves (f + 1)).2.2.2.1 x2 x5 x6 h)) ∧ (∀ (x2 : Int32) (x6 : Int32) (h : ea_H), fle ((gX12_leaves f).2.2.2.2.1 x2 x6 h) ((gX12_leaves (f + 1)).2.2.2.2.1 x2 x6 h)) ∧ (∀ (x2 : Int32) (x6 : Int32) (x7 : Int32) (h : ea_H), fle ((gX12_leaves f).2.2.2.2.2 x2 x6 x7 h) ((gX12_leaves (f + 1)).2.2.2.2.2 x2 x6 x7 h)) := by
  intro f
  induction f with
  | zero => exact ⟨fun _ _ => fle_none _, fun _ _ _ _ _ _ => fle_none _, fun _ _ _ => fle_none _, fun _ _ _ _ => fle_none _, fun _ _ _ => fle_none _, fun _ _ _ _ => fle_none _⟩
  | succ f ih => exact ⟨fun _ _ => lBX12_leaves_0 ih.2.1, fun _ _ _ _ _ _ => lBX12_leaves_25 ih.2.1 ih.2.2.1, fun _ _ _ => lBX12_leaves_151 ih.2.2.2.1, fun _ _ _ _ => lBX12_leaves_171 ih.2.2.2.1 ih.2.2.2.2.1, fun _ _ _ => lBX12_leaves_224 ih.2.2.2.2.2, fun _ _ _ _ => lBX12_leaves_234 ih.2.2.2.2.1 ih.2.2.2.2.2⟩
noncomputable def qX12_leaves_0 (x1 : Int32) (h : ea_H) : Option (Unit × ea_H) := flim fun f => (gX12_leaves f).1 x1 h
noncomputable def qX12_leaves_25 (x1 : Int32) (x2 : Int32) (x3 : Int32) (x4 : Int32) (x5 : Int32) (h : ea_H) : Option (Unit × ea_H) := flim fun f => (gX12_leaves f).2.1 x1 x2 x3 x4 x5 h
noncomputable def qX12_leaves_151 (x2 : Int32) (x3 : Int32) (h : ea_H) : Option (Unit × ea_H) := flim fun f => (gX12_leaves f).2.2.1 x2 x3 h
noncomputable def qX12_leaves_171 (x2 : Int32) (x5 : Int32) (x6 : Int32) (h : ea_H) : Option (Unit × ea_H) := flim fun f => (gX12_leaves f).2.2.2.1 x2 x5 x6 h
noncomputable def qX12_leaves_224 (x2 : Int32) (x6 : Int32) (h : ea_H) : Option (Unit × ea_H) := flim fun f => (gX12_leaves f).2.2.2.2.1 x2 x6 h
noncomputable def qX12_leaves_234 (x2 : Int32) (x6 : Int32) (x7 : Int32) (h : ea_H) : Option (Unit × ea_H) := flim fun f => (gX12_leaves f).2.2.2.2.2 x2 x6 x7 h
theorem fqX12_leaves_0 (x1 : Int32) (h : ea_H) : fct (qX12_leaves_0 x1 h) fun f => (gX12_leaves f).1 x1 h := flim_ct fun f => (mgX12_leaves f).1 x1 h
theorem fqX12_leaves_25 (x1 : Int32) (x2 : Int32) (x3 : Int32) (x4 : Int32) (x5 : Int32) (h : ea_H) : fct (qX12_leaves_25 x1 x2 x3 x4 x5 h) fun f => (gX12_leaves f).2.1 x1 x2 x3 x4 x5 h := flim_ct fun f => (mgX12_leaves f).2.1 x1 x2 x3 x4 x5 h
theorem fqX12_leaves_151 (x2 : Int32) (x3 : Int32) (h : ea_H) : fct (qX12_leaves_151 x2 x3 h) fun f => (gX12_leaves f).2.2.1 x2 x3 h := flim_ct fun f => (mgX12_leaves f).2.2.1 x2 x3 h
theorem fqX12_leaves_171 (x2 : Int32) (x5 : Int32) (x6 : Int32) (h : ea_H) : fct (qX12_leaves_171 x2 x5 x6 h) fun f => (gX12_leaves f).2.2.2.1 x2 x5 x6 h := flim_ct fun f => (mgX12_leaves f).2.2.2.1 x2 x5 x6 h
theorem fqX12_leaves_224 (x2 : Int32) (x6 : Int32) (h : ea_H) : fct (qX12_leaves_224 x2 x6 h) fun f => (gX12_leaves f).2.2.2.2.1 x2 x6 h := flim_ct fun f => (mgX12_leaves f).2.2.2.2.1 x2 x6 h
theorem fqX12_leaves_234 (x2 : Int32) (x6 : Int32) (x7 : Int32) (h : ea_H) : fct (qX12_leaves_234 x2 x6 x7 h) fun f => (gX12_leaves f).2.2.2.2.2 x2 x6 x7 h := flim_ct fun f => (mgX12_leaves f).2.2.2.2.2 x2 x6 x7 h
/-- how a block opens -/
theorem uqX12_leaves_0 {x1 : Int32} {h : ea_H} {P : Unit × ea_H → Prop} (H : sat (BX12_leaves_0 qX12_leaves_25 x1 h) P) : sat (qX12_leaves_0 x1 h) P := by
  obtain ⟨x, e, hp⟩ := H
  obtain ⟨n, hn⟩ := nBX12_leaves_0 fqX12_leaves_25 x e
  exact ⟨x, flim_at (fun f => (mgX12_leaves f).1 x1 h) (f := n + 1) (hn n (Nat.le_refl _)), hp⟩
/-- how a block opens -/
theorem uqX12_leaves_25 {x1 : Int32} {x2 : Int32} {x3 : Int32} {x4 : Int32} {x5 : Int32} {h : ea_H} {P : Unit × ea_H → Prop} (H : sat (BX12_leaves_25 qX12_leaves_25 qX12_leaves_151 x1 x2 x3 x4 x5 h) P) : sat (qX12_leaves_25 x1 x2 x3 x4 x5 h) P := by
  obtain ⟨x, e, hp⟩ := H
  obtain ⟨n, hn⟩ := nBX12_leaves_25 fqX12_leaves_25 fqX12_leaves_151 x e
  exact ⟨x, flim_at (fun f => (mgX12_leaves f).2.1 x1 x2 x3 x4 x5 h) (f := n + 1) (hn n (Nat.le_refl _)), hp⟩
/-- how a block opens -/
theorem uqX12_leaves_151 {x2 : Int32} {x3 : Int32} {h : ea_H} {P : Unit × ea_H → Prop} (H : sat (BX12_leaves_151 qX12_leaves_171 x2 x3 h) P) : sat (qX12_leaves_151 x2 x3 h) P := by
  obtain ⟨x, e, hp⟩ := H
  obtain ⟨n, hn⟩ := nBX12_leaves_151 fqX12_leaves_171 x e
  exact ⟨x, flim_at (fun f => (mgX12_leaves f).2.2.1 x2 x3 h) (f := n + 1) (hn n (Nat.le_refl _)), hp⟩
/-- how a block opens -/
theorem uqX12_leaves_171 {x2 : Int32} {x5 : Int32} {x6 : Int32} {h : ea_H} {P : Unit × ea_H → Prop} (H : sat (BX12_leaves_171 qX12_leaves_171 qX12_leaves_224 x2 x5 x6 h) P) : sat (qX12_leaves_171 x2 x5 x6 h) P := by
  obtain ⟨x, e, hp⟩ := H
  obtain ⟨n, hn⟩ := nBX12_leaves_171 fqX12_leaves_171 fqX12_leaves_224 x e
  exact ⟨x, flim_at (fun f => (mgX12_leaves f).2.2.2.1 x2 x5 x6 h) (f := n + 1) (hn n (Nat.le_refl _)), hp⟩
/-- how a block opens -/
theorem uqX12_leaves_224 {x2 : Int32} {x6 : Int32} {h : ea_H} {P : Unit × ea_H → Prop} (H : sat (BX12_leaves_224 qX12_leaves_234 x2 x6 h) P) : sat (qX12_leaves_224 x2 x6 h) P := by
  obtain ⟨x, e, hp⟩ := H
  obtain ⟨n, hn⟩ := nBX12_leaves_224 fqX12_leaves_234 x e
  exact ⟨x, flim_at (fun f => (mgX12_leaves f).2.2.2.2.1 x2 x6 h) (f := n + 1) (hn n (Nat.le_refl _)), hp⟩
/-- how a block opens -/
theorem uqX12_leaves_234 {x2 : Int32} {x6 : Int32} {x7 : Int32} {h : ea_H} {P : Unit × ea_H → Prop} (H : sat (BX12_leaves_234 qX12_leaves_224 qX12_leaves_234 x2 x6 x7 h) P) : sat (qX12_leaves_234 x2 x6 x7 h) P := by
  obtain ⟨x, e, hp⟩ := H
  obtain ⟨n, hn⟩ := nBX12_leaves_234 fqX12_leaves_224 fqX12_leaves_234 x e
  exact ⟨x, flim_at (fun f => (mgX12_leaves f).2.2.2.2.2 x2 x6 x7 h) (f := n + 1) (hn n (Nat.le_refl _)), hp⟩
theorem kgX12_leaves : ∀ f : Nat, (∀ (x1 : Int32) (h : ea_H), kp (ea_core h) ((gX12_leaves f).1 x1 h)) ∧ (∀ (x1 : Int32) (x2 : Int32) (x3 : Int32) (x4 : Int32) (x5 : Int32) (h : ea_H), kp (ea_core h) ((gX12_leaves f).2.1 x1 x2 x3 x4 x5 h)) ∧ (∀ (x2 : Int32) (x3 : Int32) (h : ea_H), kp (ea_core h) ((gX12_leaves f).2.2.1 x2 x3 h)) ∧ (∀ (x2 : Int32) (x5 : Int32) (x6 : Int32) (h : ea_H), kp (ea_core h) ((gX12_leaves f).2.2.2.1 x2 x5 x6 h)) ∧ (∀ (x2 : Int32) (x6 : Int32) (h : ea_H), kp (ea_core h) ((gX12_leaves f).2.2.2.2.1 x2 x6 h)) ∧ (∀ (x2 : Int32) (x6 : Int32) (x7 : Int32) (h : ea_H), kp (ea_core h) ((gX12_leaves f).2.2.2.2.2 x2 x6 x7 h)) := by
  intro f
  induction f with
  | zero => exact ⟨fun _ _ => kp_none _, fun _ _ _ _ _ _ => kp_none _, fun _ _ _ => kp_none _, fun _ _ _ _ => kp_none _, fun _ _ _ => kp_none _, fun _ _ _ _ => kp_none _⟩
  | succ f ih => exact ⟨fun _ _ => kBX12_leaves_0 ih.2.1, fun _ _ _ _ _ _ => kBX12_leaves_25 ih.2.1 ih.2.2.1, fun _ _ _ => kBX12_leaves_151 ih.2.2.2.1, fun _ _ _ _ => kBX12_leaves_171 ih.2.2.2.1 ih.2.2.2.2.1, fun _ _ _ => kBX12_leaves_224 ih.2.2.2.2.2, fun _ _ _ _ => kBX12_leaves_234 ih.2.2.2.2.1 ih.2.2.2.2.2⟩
theorem tgX12_leaves {d : Nat} {h0 : ea_H} (hd : 6 ≤ d) : ∀ f : Nat, (∀ (x1 : Int32) (h : ea_H) (r : Unit) (h' : ea_H), (gX12_leaves f).1 x1 h = some (r, h') → ShM h → ea_W mX12_leaves d h0 none h' 0 [(0, vR (some 326)), (1, vI x1)] [] h) ∧ (∀ (x1 : Int32) (x2 : Int32) (x3 : Int32) (x4 : Int32) (x5 : Int32) (h : ea_H) (r : Unit) (h' : ea_H), (gX12_leaves f).2.1 x1 x2 x3 x4 x5 h = some (r, h') → ShM h → ea_W mX12_leaves d h0 none h' 25 [(0, vR (some 326)), (1, vI x1), (2, vI x2), (3, vI x3), (4, vI x4), (5, vI x5)] [] h) ∧ (∀ (x2 : Int32) (x3 : Int32) (h : ea_H) (r : Unit) (h' : ea_H), (gX12_leaves f).2.2.1 x2 x3 h = some (r, h') → ShM h → ea_W mX12_leaves d h0 none h' 151 [(0, vR (some 326)), (2, vI x2), (3, vI x3)] [] h) ∧ (∀ (x2 : Int32) (x5 : Int32) (x6 : Int32) (h : ea_H) (r : Unit) (h' : ea_H), (gX12_leaves f).2.2.2.1 x2 x5 x6 h = some (r, h') → ShM h → ea_W mX12_leaves d h0 none h' 171 [(0, vR (some 326)), (2, vI x2), (5, vI x5), (6, vI x6)] [] h) ∧ (∀ (x2 : Int32) (x6 : Int32) (h : ea_H) (r : Unit) (h' : ea_H), (gX12_leaves f).2.2.2.2.1 x2 x6 h = some (r, h') → ShM h → ea_W mX12_leaves d h0 none h' 224 [(0, vR (some 326)), (2, vI x2), (6, vI x6)] [] h) ∧ (∀ (x2 : Int32) (x6 : Int32) (x7 : Int32) (h : ea_H) (r : Unit) (h' : ea_H), (gX12_leaves f).2.2.2.2.2 x2 x6 x7 h = some (r, h') → ShM h → ea_W mX12_leaves d h0 none h' 234 [(0, vR (some 326)), (2, vI x2), (6, vI x6), (7, vI x7)] [] h) := by
  intro f
  induction f with
  | zero => exact ⟨fun _ _ _ _ E => no_some E, fun _ _ _ _ _ _ _ _ E => no_some E, fun _ _ _ _ _ E => no_some E, fun _ _ _ _ _ _ E => no_some E, fun _ _ _ _ _ E => no_some E, fun _ _ _ _ _ _ E => no_some E⟩
  | succ f ih => exact ⟨fun _ _ _ _ E hs => tBX12_leaves_0 hd ih.2.1 E hs, fun _ _ _ _ _ _ _ _ E hs => tBX12_leaves_25 hd ih.2.1 ih.2.2.1 E hs, fun _ _ _ _ _ E hs => tBX12_leaves_151 hd ih.2.2.2.1 E hs, fun _ _ _ _ _ _ E hs => tBX12_leaves_171 hd ih.2.2.2.1 ih.2.2.2.2.1 E hs, fun _ _ _ _ _ E hs => tBX12_leaves_224 hd ih.2.2.2.2.2 E hs, fun _ _ _ _ _ _ E hs => tBX12_leaves_234 hd ih.2.2.2.2.1 ih.2.2.2.2.2 E hs⟩
noncomputable def qX12_leaves (x1 : Int32) (h : ea_H) : Option (Unit × ea_H) := qX12_leaves_0 x1 h
theorem sX12_leaves {d : Nat} {x1 : Int32} {h : ea_H} {r : Unit} {h' : ea_H} (hd : 6 ≤ d) (hs : ShM h) (K : qX12_leaves x1 h = some (r, h')) : ea_Met mX12_leaves d [vR (some 326), vI x1] h none h' := by
  unfold qX12_leaves at K
  obtain ⟨n, hn⟩ := fqX12_leaves_0 x1 h _ K
  have W := (tgX12_leaves (d := d) (h0 := h) hd n).1 x1 h _ _ (hn n (Nat.le_refl _)) hs
  exact ea_enter rfl (Nat.le_of_ble_eq_true rfl) W
theorem kpX12_leaves (x1 : Int32) (h : ea_H) : kp (ea_core h) (qX12_leaves x1 h) := fun x e => by
  obtain ⟨n, hn⟩ := fqX12_leaves_0 x1 h x e
  exact (kgX12_leaves n).1 x1 h x (hn n (Nat.le_refl _))
noncomputable def BX12_leadsOn_0 (J15 : Int32 → Int32 → Int32 → Int32 → ea_H → Option (Unit × ea_H)) (x1 : Int32) (x2 : Int32) (h : ea_H) : Option (Unit × ea_H) :=
  (Option.bind (qX12_table  h) fun w1 => (ea_let ((x1 / (1440 : Int32)) + (1 : Int32)) fun (v2 : Int32) => (J15 (x1 : Int32) (x2 : Int32) (v2 : Int32) (0 : Int32) w1.2)))
theorem tBX12_leadsOn_0 {d : Nat} {h0 : ea_H} (hd : 7 ≤ d) {J15 : Int32 → Int32 → Int32 → Int32 → ea_H → Option (Unit × ea_H)}  (kJ15 : ∀ (x1 : Int32) (x2 : Int32) (x3 : Int32) (x4 : Int32) (h : ea_H) (r : Unit) (h' : ea_H), J15 x1 x2 x3 x4 h = some (r, h') → ShM h → ea_W mX12_leadsOn d h0 none h' 15 [(0, vR (some 326)), (1, vI x1), (2, vI x2), (3, vI x3), (4, vI x4)] [] h) {x1 : Int32} {x2 : Int32} {h : ea_H} {r : Unit} {h' : ea_H} (E : BX12_leadsOn_0 J15 x1 x2 h = some (r, h')) (hs : ShM h) : ea_W mX12_leadsOn d h0 none h' 0 [(0, vR (some 326)), (1, vI x1), (2, vI x2)] [] h := by
  unfold BX12_leadsOn_0 at E
  obtain ⟨w1, Ew1, E⟩ := bd_some E
  have hsw1 : ShM w1.2 := ShM_core ((kpX12_table _) _ Ew1) hs
  refine ea_aload_n (pc := 0) dX12_leadsOn_0 rfl 0 rfl ?_
  refine ea_callV (pc := 1) (d' := d - 1) (As := []) (st := []) dX12_leadsOn_1 kX12_table (sX12_table (d := d - 1) (by omega) hs Ew1) (by omega) rfl (Nat.le_of_ble_eq_true rfl) ew_1831 ew_1833 ew_61 (ci := 12) rfl (by decide) (cShM_326 hs).1 (cShM_326 hs).2.1 ?_
  obtain ⟨v2, ev2, E⟩ := let_some E
  refine ea_iload_n (pc := 4) dX12_leadsOn_4 rfl 1 rfl ?_
  refine ea_sipush (pc := 5) dX12_leadsOn_5 (v := 1440) rfl ?_
  refine ea_idiv (pc := 8) dX12_leadsOn_8 (by decide) ?_
  refine ea_iconst (pc := 9) dX12_leadsOn_9 (v := 1) rfl ?_
  refine ea_iadd (pc := 10) dX12_leadsOn_10 ?_
  refine ea_istore_n (pc := 11) (lv' := [(0, vR (some 326)), (1, vI x1), (2, vI x2), (3, vI v2)]) dX12_leadsOn_11 rfl (Nat.le_of_ble_eq_true rfl) [1, 2, 3, 0] (by rw [ev2]; rfl) ?_
  refine ea_iconst (pc := 12) dX12_leadsOn_12 (v := 0) rfl ?_
  refine ea_istore (pc := 13) (lv' := [(0, vR (some 326)), (1, vI x1), (2, vI x2), (3, vI v2), (4, vI 0)]) dX12_leadsOn_13 (Nat.le_of_ble_eq_true rfl) [1, 2, 3, 4, 0] rfl ?_
  exact (kJ15 (x1 : Int32) (x2 : Int32) (v2 : Int32) (0 : Int32) w1.2 _ _ E hsw1)
theorem kBX12_leadsOn_0 {J15 : Int32 → Int32 → Int32 → Int32 → ea_H → Option (Unit × ea_H)}  (cJ15 : ∀ (x1 : Int32) (x2 : Int32) (x3 : Int32) (x4 : Int32) (h : ea_H), kp (ea_core h) (J15 x1 x2 x3 x4 h)) {x1 : Int32} {x2 : Int32} {h : ea_H} : kp (ea_core h) (BX12_leadsOn_0 J15 x1 x2 h) :=
  (kp_bind (kp_tw (kpX12_table _) rfl) fun w1 hcw1 => (kp_let (kp_tw (cJ15 _ _ _ _ _) hcw1)))
theorem lBX12_leadsOn_0 {J15 : Int32 → Int32 → Int32 → Int32 → ea_H → Option (Unit × ea_H)} {J15_ : Int32 → Int32 → Int32 → Int32 → ea_H → Option (Unit × ea_H)}  (mJ15 : ∀ (x1 : Int32) (x2 : Int32) (x3 : Int32) (x4 : Int32) (h : ea_H), fle (J15 x1 x2 x3 x4 h) (J15_ x1 x2 x3 x4 h)) {x1 : Int32} {x2 : Int32} {h : ea_H} : fle (BX12_leadsOn_0 J15 x1 x2 h) (BX12_leadsOn_0 J15_ x1 x2 h) :=
  (fle_bind (fle_rfl _) fun _ => (fle_let fun _ => (mJ15 _ _ _ _ _)))
theorem nBX12_leadsOn_0 {J15 : Int32 → Int32 → Int32 → Int32 → ea_H → Option (Unit × ea_H)} {J15_ : Nat → (Int32 → Int32 → Int32 → Int32 → ea_H → Option (Unit × ea_H))}  (mJ15 : ∀ (x1 : Int32) (x2 : Int32) (x3 : Int32) (x4 : Int32) (h : ea_H), fct (J15 x1 x2 x3 x4 h) (fun f => J15_ f x1 x2 x3 x4 h)) {x1 : Int32} {x2 : Int32} {h : ea_H} : fct (BX12_leadsOn_0 J15 x1 x2 h) (fun f => BX12_leadsOn_0 (J15_ f) x1 x2 h) :=
  (fct_bind (fct_rfl _) fun _ => (fct_let fun _ => (mJ15 _ _ _ _ _)))
noncomputable def BX12_leadsOn_15 (J15 : Int32 → Int32 → Int32 → Int32 → ea_H → Option (Unit × ea_H)) (J49 : Int32 → Int32 → Int32 → Int32 → ea_H → Option (Unit × ea_H)) (J110 : Int32 → Int32 → ea_H → Option (Unit × ea_H)) (x1 : Int32) (x2 : Int32) (x3 : Int32) (x4 : Int32) (h : ea_H) : Option (Unit × ea_H) :=
  (if (ea_i h 326 13) ≤ x4 then (J110 (x2 : Int32) (x3 : Int32) h) else (gd (vp_in x4 1000) (if x2 < (ea_i h 336 (Int32.toNatClampNeg x4)) then (J110 (x2 : Int32) (x3 : Int32) h) else (gd (vp_in x4 1000) (if x1 < (ea_i h 336 (Int32.toNatClampNeg x4)) then (J49 (x1 : Int32) (x2 : Int32) (x3 : Int32) (x4 : Int32) h) else (J15 (x1 : Int32) (x2 : Int32) (x3 : Int32) ((x4 + (1 : Int32)) : Int32) h))))))
theorem tBX12_leadsOn_15 {d : Nat} {h0 : ea_H} (hd : 7 ≤ d) {J15 : Int32 → Int32 → Int32 → Int32 → ea_H → Option (Unit × ea_H)} {J49 : Int32 → Int32 → Int32 → Int32 → ea_H → Option (Unit × ea_H)} {J110 : Int32 → Int32 → ea_H → Option (Unit × ea_H)}  (kJ15 : ∀ (x1 : Int32) (x2 : Int32) (x3 : Int32) (x4 : Int32) (h : ea_H) (r : Unit) (h' : ea_H), J15 x1 x2 x3 x4 h = some (r, h') → ShM h → ea_W mX12_leadsOn d h0 none h' 15 [(0, vR (some 326)), (1, vI x1), (2, vI x2), (3, vI x3), (4, vI x4)] [] h) (kJ49 : ∀ (x1 : Int32) (x2 : Int32) (x3 : Int32) (x4 : Int32) (h : ea_H) (r : Unit) (h' : ea_H), J49 x1 x2 x3 x4 h = some (r, h') → ShM h → ea_W mX12_leadsOn d h0 none h' 49 [(0, vR (some 326)), (1, vI x1), (2, vI x2), (3, vI x3), (4, vI x4)] [] h) (kJ110 : ∀ (x2 : Int32) (x3 : Int32) (h : ea_H) (r : Unit) (h' : ea_H), J110 x2 x3 h = some (r, h') → ShM h → ea_W mX12_leadsOn d h0 none h' 110 [(0, vR (some 326)), (2, vI x2), (3, vI x3)] [] h) {x1 : Int32} {x2 : Int32} {x3 : Int32} {x4 : Int32} {h : ea_H} {r : Unit} {h' : ea_H} (E : BX12_leadsOn_15 J15 J49 J110 x1 x2 x3 x4 h = some (r, h')) (hs : ShM h) : ea_W mX12_leadsOn d h0 none h' 15 [(0, vR (some 326)), (1, vI x1), (2, vI x2), (3, vI x3), (4, vI x4)] [] h := by
  unfold BX12_leadsOn_15 at E
  refine ea_iload (pc := 15) dX12_leadsOn_15 4 rfl ?_
  refine ea_aload_n (pc := 17) dX12_leadsOn_17 rfl 0 rfl ?_
  refine ea_getI (pc := 18) dX12_leadsOn_18 ec_12 (k := 13) (Nat.le_of_ble_eq_true rfl) rfl (Or.inl ew_1415) (cShM_326 hs).1 (cShM_326 hs).2.1 ?_
  refine ea_icmp_ge (pc := 21) (tgt := 110) dX12_leadsOn_21 rfl (fun c7 => ?_) (fun c7 => ?_)
  · have E := (if_pos c7).symm.trans E
    exact ea_fewer [0, 2, 3] rfl (kJ110 (x2 : Int32) (x3 : Int32) h _ _ E hs)
  · have E := (if_neg c7).symm.trans E
    obtain ⟨z3, E⟩ := gd_some E
    refine ea_aload_n (pc := 24) dX12_leadsOn_24 rfl 0 rfl ?_
    refine ea_getR (pc := 25) dX12_leadsOn_25 ec_12 (k := 14) (Nat.le_of_ble_eq_true rfl) rfl (Or.inl ew_1416) (cShM_326 hs).1 (cShM_326 hs).2.1 (rShM_326_14 hs) ?_
    refine ea_iload (pc := 28) dX12_leadsOn_28 4 rfl ?_
    refine ea_iald (pc := 30) dX12_leadsOn_30 (cShM_336 hs).1 (cShM_336 hs).2.1 (ea_vpl (cShM_336 hs).2.2 z3) ?_
    refine ea_iload_n (pc := 31) dX12_leadsOn_31 rfl 2 rfl ?_
    refine ea_icmp_gt (pc := 32) (tgt := 110) dX12_leadsOn_32 rfl (fun c6 => ?_) (fun c6 => ?_)
    · have E := (if_pos c6).symm.trans E
      exact ea_fewer [0, 2, 3] rfl (kJ110 (x2 : Int32) (x3 : Int32) h _ _ E hs)
    · have E := (if_neg c6).symm.trans E
      obtain ⟨z4, E⟩ := gd_some E
      refine ea_aload_n (pc := 35) dX12_leadsOn_35 rfl 0 rfl ?_
      refine ea_getR (pc := 36) dX12_leadsOn_36 ec_12 (k := 14) (Nat.le_of_ble_eq_true rfl) rfl (Or.inl ew_1416) (cShM_326 hs).1 (cShM_326 hs).2.1 (rShM_326_14 hs) ?_
      refine ea_iload (pc := 39) dX12_leadsOn_39 4 rfl ?_
      refine ea_iald (pc := 41) dX12_leadsOn_41 (cShM_336 hs).1 (cShM_336 hs).2.1 (ea_vpl (cShM_336 hs).2.2 z4) ?_
      refine ea_iload_n (pc := 42) dX12_leadsOn_42 rfl 1 rfl ?_
      refine ea_icmp_gt (pc := 43) (tgt := 49) dX12_leadsOn_43 rfl (fun c5 => ?_) (fun c5 => ?_)
      · have E := (if_pos c5).symm.trans E
        exact (kJ49 (x1 : Int32) (x2 : Int32) (x3 : Int32) (x4 : Int32) h _ _ E hs)
      · have E := (if_neg c5).symm.trans E
        refine ea_goto (pc := 46) (tgt := 104) dX12_leadsOn_46 rfl ?_
        refine ea_iinc (pc := 104) (v := 1) (lv' := [(0, vR (some 326)), (1, vI x1), (2, vI x2), (3, vI x3), (4, vI (x4 + (1 : Int32)))]) dX12_leadsOn_104 4 rfl rfl (Nat.le_of_ble_eq_true rfl) [1, 2, 3, 4, 0] rfl ?_
        refine ea_goto (pc := 107) (tgt := 15) dX12_leadsOn_107 rfl ?_
        exact (kJ15 (x1 : Int32) (x2 : Int32) (x3 : Int32) ((x4 + (1 : Int32)) : Int32) h _ _ E hs)
theorem kBX12_leadsOn_15 {J15 : Int32 → Int32 → Int32 → Int32 → ea_H → Option (Unit × ea_H)} {J49 : Int32 → Int32 → Int32 → Int32 → ea_H → Option (Unit × ea_H)} {J110 : Int32 → Int32 → ea_H → Option (Unit × ea_H)}  (cJ15 : ∀ (x1 : Int32) (x2 : Int32) (x3 : Int32) (x4 : Int32) (h : ea_H), kp (ea_core h) (J15 x1 x2 x3 x4 h)) (cJ49 : ∀ (x1 : Int32) (x2 : Int32) (x3 : Int32) (x4 : Int32) (h : ea_H), kp (ea_core h) (J49 x1 x2 x3 x4 h)) (cJ110 : ∀ (x2 : Int32) (x3 : Int32) (h : ea_H), kp (ea_core h) (J110 x2 x3 h)) {x1 : Int32} {x2 : Int32} {x3 : Int32} {x4 : Int32} {h : ea_H} : kp (ea_core h) (BX12_leadsOn_15 J15 J49 J110 x1 x2 x3 x4 h) :=
  (kp_ite (kp_tw (cJ110 _ _ _) rfl) (kp_gd (kp_ite (kp_tw (cJ110 _ _ _) rfl) (kp_gd (kp_ite (kp_tw (cJ49 _ _ _ _ _) rfl) (kp_tw (cJ15 _ _ _ _ _) rfl))))))
theorem lBX12_leadsOn_15 {J15 : Int32 → Int32 → Int32 → Int32 → ea_H → Option (Unit × ea_H)} {J49 : Int32 → Int32 → Int32 → Int32 → ea_H → Option (Unit × ea_H)} {J110 : Int32 → Int32 → ea_H → Option (Unit × ea_H)} {J15_ : Int32 → Int32 → Int32 → Int32 → ea_H → Option (Unit × ea_H)} {J49_ : Int32 → Int32 → Int32 → Int32 → ea_H → Option (Unit × ea_H)} {J110_ : Int32 → Int32 → ea_H → Option (Unit × ea_H)}  (mJ15 : ∀ (x1 : Int32) (x2 : Int32) (x3 : Int32) (x4 : Int32) (h : ea_H), fle (J15 x1 x2 x3 x4 h) (J15_ x1 x2 x3 x4 h)) (mJ49 : ∀ (x1 : Int32) (x2 : Int32) (x3 : Int32) (x4 : Int32) (h : ea_H), fle (J49 x1 x2 x3 x4 h) (J49_ x1 x2 x3 x4 h)) (mJ110 : ∀ (x2 : Int32) (x3 : Int32) (h : ea_H), fle (J110 x2 x3 h) (J110_ x2 x3 h)) {x1 : Int32} {x2 : Int32} {x3 : Int32} {x4 : Int32} {h : ea_H} : fle (BX12_leadsOn_15 J15 J49 J110 x1 x2 x3 x4 h) (BX12_leadsOn_15 J15_ J49_ J110_ x1 x2 x3 x4 h) :=
  (fle_ite (mJ110 _ _ _) (fle_gd (fle_ite (mJ110 _ _ _) (fle_gd (fle_ite (mJ49 _ _ _ _ _) (mJ15 _ _ _ _ _))))))
theorem nBX12_leadsOn_15 {J15 : Int32 → Int32 → Int32 → Int32 → ea_H → Option (Unit × ea_H)} {J49 : Int32 → Int32 → Int32 → Int32 → ea_H → Option (Unit × ea_H)} {J110 : Int32 → Int32 → ea_H → Option (Unit × ea_H)} {J15_ : Nat → (Int32 → Int32 → Int32 → Int32 → ea_H → Option (Unit × ea_H))} {J49_ : Nat → (Int32 → Int32 → Int32 → Int32 → ea_H → Option (Unit × ea_H))} {J110_ : Nat → (Int32 → Int32 → ea_H → Option (Unit × ea_H))}  (mJ15 : ∀ (x1 : Int32) (x2 : Int32) (x3 : Int32) (x4 : Int32) (h : ea_H), fct (J15 x1 x2 x3 x4 h) (fun f => J15_ f x1 x2 x3 x4 h)) (mJ49 : ∀ (x1 : Int32) (x2 : Int32) (x3 : Int32) (x4 : Int32) (h : ea_H), fct (J49 x1 x2 x3 x4 h) (fun f => J49_ f x1 x2 x3 x4 h)) (mJ110 : ∀ (x2 : Int32) (x3 : Int32) (h : ea_H), fct (J110 x2 x3 h) (fun f => J110_ f x2 x3 h)) {x1 : Int32} {x2 : Int32} {x3 : Int32} {x4 : Int32} {h : ea_H} : fct (BX12_leadsOn_15 J15 J49 J110 x1 x2 x3 x4 h) (fun f => BX12_leadsOn_15 (J15_ f) (J49_ f) (J110_ f) x1 x2 x3 x4 h) :=
  (fct_ite (mJ110 _ _ _) (fct_gd (fct_ite (mJ110 _ _ _) (fct_gd (fct_ite (mJ49 _ _ _ _ _) (mJ15 _ _ _ _ _))))))
noncomputable def BX12_leadsOn_49 (J15 : Int32 → Int32 → Int32 → Int32 → ea_H → Option (Unit × ea_H)) (J49 : Int32 → Int32 → Int32 → Int32 → ea_H → Option (Unit × ea_H)) (x1 : Int32) (x2 : Int32) (x3 : Int32) (x4 : Int32) (h : ea_H) : Option (Unit × ea_H) :=
  (gd (vp_in x4 1000) (if (ea_i h 336 (Int32.toNatClampNeg x4)) < ((1440 : Int32) * x3) then (gd (vp_in x4 1000) (if (ea_i h 337 (Int32.toNatClampNeg x4)) = (0 : Int32) then (Option.bind (qX12_coming (x4 : Int32) h) fun w11 => (J15 (x1 : Int32) (x2 : Int32) (x3 : Int32) ((x4 + (1 : Int32)) : Int32) w11.2)) else (Option.bind (qX12_leaves (x4 : Int32) h) fun w10 => (J15 (x1 : Int32) (x2 : Int32) (x3 : Int32) ((x4 + (1 : Int32)) : Int32) w10.2)))) else (Option.bind (qX12_begins (((1440 : Int32) * x3) : Int32) h) fun w13 => (J49 (x1 : Int32) (x2 : Int32) ((x3 + (1 : Int32)) : Int32) (x4 : Int32) w13.2))))
theorem tBX12_leadsOn_49 {d : Nat} {h0 : ea_H} (hd : 7 ≤ d) {J15 : Int32 → Int32 → Int32 → Int32 → ea_H → Option (Unit × ea_H)} {J49 : Int32 → Int32 → Int32 → Int32 → ea_H → Option (Unit × ea_H)}  (kJ15 : ∀ (x1 : Int32) (x2 : Int32) (x3 : Int32) (x4 : Int32) (h : ea_H) (r : Unit) (h' : ea_H), J15 x1 x2 x3 x4 h = some (r, h') → ShM h → ea_W mX12_leadsOn d h0 none h' 15 [(0, vR (some 326)), (1, vI x1), (2, vI x2), (3, vI x3), (4, vI x4)] [] h) (kJ49 : ∀ (x1 : Int32) (x2 : Int32) (x3 : Int32) (x4 : Int32) (h : ea_H) (r : Unit) (h' : ea_H), J49 x1 x2 x3 x4 h = some (r, h') → ShM h → ea_W mX12_leadsOn d h0 none h' 49 [(0, vR (some 326)), (1, vI x1), (2, vI x2), (3, vI x3), (4, vI x4)] [] h) {x1 : Int32} {x2 : Int32} {x3 : Int32} {x4 : Int32} {h : ea_H} {r : Unit} {h' : ea_H} (E : BX12_leadsOn_49 J15 J49 x1 x2 x3 x4 h = some (r, h')) (hs : ShM h) : ea_W mX12_leadsOn d h0 none h' 49 [(0, vR (some 326)), (1, vI x1), (2, vI x2), (3, vI x3), (4, vI x4)] [] h := by
  unfold BX12_leadsOn_49 at E
  obtain ⟨z8, E⟩ := gd_some E
  refine ea_sipush (pc := 49) dX12_leadsOn_49 (v := 1440) rfl ?_
  refine ea_iload_n (pc := 52) dX12_leadsOn_52 rfl 3 rfl ?_
  refine ea_imul (pc := 53) dX12_leadsOn_53 ?_
  refine ea_aload_n (pc := 54) dX12_leadsOn_54 rfl 0 rfl ?_
  refine ea_getR (pc := 55) dX12_leadsOn_55 ec_12 (k := 14) (Nat.le_of_ble_eq_true rfl) rfl (Or.inl ew_1416) (cShM_326 hs).1 (cShM_326 hs).2.1 (rShM_326_14 hs) ?_
  refine ea_iload (pc := 58) dX12_leadsOn_58 4 rfl ?_
  refine ea_iald (pc := 60) dX12_leadsOn_60 (cShM_336 hs).1 (cShM_336 hs).2.1 (ea_vpl (cShM_336 hs).2.2 z8) ?_
  refine ea_icmp_gt (pc := 61) (tgt := 79) dX12_leadsOn_61 rfl (fun c14 => ?_) (fun c14 => ?_)
  · have E := (if_pos c14).symm.trans E
    obtain ⟨z9, E⟩ := gd_some E
    refine ea_aload_n (pc := 79) dX12_leadsOn_79 rfl 0 rfl ?_
    refine ea_getR (pc := 80) dX12_leadsOn_80 ec_12 (k := 15) (Nat.le_of_ble_eq_true rfl) rfl (Or.inl ew_1417) (cShM_326 hs).1 (cShM_326 hs).2.1 (rShM_326_15 hs) ?_
    refine ea_iload (pc := 83) dX12_leadsOn_83 4 rfl ?_
    refine ea_iald (pc := 85) dX12_leadsOn_85 (cShM_337 hs).1 (cShM_337 hs).2.1 (ea_vpl (cShM_337 hs).2.2 z9) ?_
    refine ea_if_ne (pc := 86) (tgt := 98) dX12_leadsOn_86 rfl (fun c12 => ?_) (fun c12 => ?_)
    · have E := (if_neg c12).symm.trans E
      obtain ⟨w10, Ew10, E⟩ := bd_some E
      have hsw10 : ShM w10.2 := ShM_core ((kpX12_leaves _ _) _ Ew10) hs
      refine ea_aload_n (pc := 98) dX12_leadsOn_98 rfl 0 rfl ?_
      refine ea_iload (pc := 99) dX12_leadsOn_99 4 rfl ?_
      refine ea_callV (pc := 101) (d' := d - 1) (As := [vI x4]) (st := []) dX12_leadsOn_101 kX12_leaves (sX12_leaves (d := d - 1) (by omega) hs Ew10) (by omega) rfl (Nat.le_of_ble_eq_true rfl) ew_2135 ew_2137 ew_104 (ci := 12) rfl (by decide) (cShM_326 hs).1 (cShM_326 hs).2.1 ?_
      refine ea_iinc (pc := 104) (v := 1) (lv' := [(0, vR (some 326)), (1, vI x1), (2, vI x2), (3, vI x3), (4, vI (x4 + (1 : Int32)))]) dX12_leadsOn_104 4 rfl rfl (Nat.le_of_ble_eq_true rfl) [1, 2, 3, 4, 0] rfl ?_
      refine ea_goto (pc := 107) (tgt := 15) dX12_leadsOn_107 rfl ?_
      exact (kJ15 (x1 : Int32) (x2 : Int32) (x3 : Int32) ((x4 + (1 : Int32)) : Int32) w10.2 _ _ E hsw10)
    · have E := (if_pos c12).symm.trans E
      obtain ⟨w11, Ew11, E⟩ := bd_some E
      have hsw11 : ShM w11.2 := ShM_core ((kpX12_coming _ _) _ Ew11) hs
      refine ea_aload_n (pc := 89) dX12_leadsOn_89 rfl 0 rfl ?_
      refine ea_iload (pc := 90) dX12_leadsOn_90 4 rfl ?_
      refine ea_callV (pc := 92) (d' := d - 1) (As := [vI x4]) (st := []) dX12_leadsOn_92 kX12_coming (sX12_coming (d := d - 1) (by omega) hs Ew11) (by omega) rfl (Nat.le_of_ble_eq_true rfl) ew_2120 ew_2122 ew_101 (ci := 12) rfl (by decide) (cShM_326 hs).1 (cShM_326 hs).2.1 ?_
      refine ea_goto (pc := 95) (tgt := 104) dX12_leadsOn_95 rfl ?_
      refine ea_iinc (pc := 104) (v := 1) (lv' := [(0, vR (some 326)), (1, vI x1), (2, vI x2), (3, vI x3), (4, vI (x4 + (1 : Int32)))]) dX12_leadsOn_104 4 rfl rfl (Nat.le_of_ble_eq_true rfl) [1, 2, 3, 4, 0] rfl ?_
      refine ea_goto (pc := 107) (tgt := 15) dX12_leadsOn_107 rfl ?_
      exact (kJ15 (x1 : Int32) (x2 : Int32) (x3 : Int32) ((x4 + (1 : Int32)) : Int32) w11.2 _ _ E hsw11)
  · have E := (if_neg c14).symm.trans E
    obtain ⟨w13, Ew13, E⟩ := bd_some E
    have hsw13 : ShM w13.2 := ShM_core ((kpX12_begins _ _) _ Ew13) hs
    refine ea_aload_n (pc := 64) dX12_leadsOn_64 rfl 0 rfl ?_
    refine ea_sipush (pc := 65) dX12_leadsOn_65 (v := 1440) rfl ?_
    refine ea_iload_n (pc := 68) dX12_leadsOn_68 rfl 3 rfl ?_
    refine ea_imul (pc := 69) dX12_leadsOn_69 ?_
    refine ea_callV (pc := 70) (d' := d - 1) (As := [vI ((1440 : Int32) * x3)]) (st := []) dX12_leadsOn_70 kX12_begins (sX12_begins (d := d - 1) (by omega) hs Ew13) (by omega) rfl (Nat.le_of_ble_eq_true rfl) ew_2116 ew_2118 ew_100 (ci := 12) rfl (by decide) (cShM_326 hs).1 (cShM_326 hs).2.1 ?_
    refine ea_iinc (pc := 73) (v := 1) (lv' := [(0, vR (some 326)), (1, vI x1), (2, vI x2), (3, vI (x3 + (1 : Int32))), (4, vI x4)]) dX12_leadsOn_73 3 rfl rfl (Nat.le_of_ble_eq_true rfl) [1, 2, 3, 0, 4] rfl ?_
    refine ea_goto (pc := 76) (tgt := 49) dX12_leadsOn_76 rfl ?_
    exact (kJ49 (x1 : Int32) (x2 : Int32) ((x3 + (1 : Int32)) : Int32) (x4 : Int32) w13.2 _ _ E hsw13)
theorem kBX12_leadsOn_49 {J15 : Int32 → Int32 → Int32 → Int32 → ea_H → Option (Unit × ea_H)} {J49 : Int32 → Int32 → Int32 → Int32 → ea_H → Option (Unit × ea_H)}  (cJ15 : ∀ (x1 : Int32) (x2 : Int32) (x3 : Int32) (x4 : Int32) (h : ea_H), kp (ea_core h) (J15 x1 x2 x3 x4 h)) (cJ49 : ∀ (x1 : Int32) (x2 : Int32) (x3 : Int32) (x4 : Int32) (h : ea_H), kp (ea_core h) (J49 x1 x2 x3 x4 h)) {x1 : Int32} {x2 : Int32} {x3 : Int32} {x4 : Int32} {h : ea_H} : kp (ea_core h) (BX12_leadsOn_49 J15 J49 x1 x2 x3 x4 h) :=
  (kp_gd (kp_ite (kp_gd (kp_ite (kp_bind (kp_tw (kpX12_coming _ _) rfl) fun w11 hcw11 => (kp_tw (cJ15 _ _ _ _ _) hcw11)) (kp_bind (kp_tw (kpX12_leaves _ _) rfl) fun w10 hcw10 => (kp_tw (cJ15 _ _ _ _ _) hcw10)))) (kp_bind (kp_tw (kpX12_begins _ _) rfl) fun w13 hcw13 => (kp_tw (cJ49 _ _ _ _ _) hcw13))))
theorem lBX12_leadsOn_49 {J15 : Int32 → Int32 → Int32 → Int32 → ea_H → Option (Unit × ea_H)} {J49 : Int32 → Int32 → Int32 → Int32 → ea_H → Option (Unit × ea_H)} {J15_ : Int32 → Int32 → Int32 → Int32 → ea_H → Option (Unit × ea_H)} {J49_ : Int32 → Int32 → Int32 → Int32 → ea_H → Option (Unit × ea_H)}  (mJ15 : ∀ (x1 : Int32) (x2 : Int32) (x3 : Int32) (x4 : Int32) (h : ea_H), fle (J15 x1 x2 x3 x4 h) (J15_ x1 x2 x3 x4 h)) (mJ49 : ∀ (x1 : Int32) (x2 : Int32) (x3 : Int32) (x4 : Int32) (h : ea_H), fle (J49 x1 x2 x3 x4 h) (J49_ x1 x2 x3 x4 h)) {x1 : Int32} {x2 : Int32} {x3 : Int32} {x4 : Int32} {h : ea_H} : fle (BX12_leadsOn_49 J15 J49 x1 x2 x3 x4 h) (BX12_leadsOn_49 J15_ J49_ x1 x2 x3 x4 h) :=
  (fle_gd (fle_ite (fle_gd (fle_ite (fle_bind (fle_rfl _) fun _ => (mJ15 _ _ _ _ _)) (fle_bind (fle_rfl _) fun _ => (mJ15 _ _ _ _ _)))) (fle_bind (fle_rfl _) fun _ => (mJ49 _ _ _ _ _))))
theorem nBX12_leadsOn_49 {J15 : Int32 → Int32 → Int32 → Int32 → ea_H → Option (Unit × ea_H)} {J49 : Int32 → Int32 → Int32 → Int32 → ea_H → Option (Unit × ea_H)} {J15_ : Nat → (Int32 → Int32 → Int32 → Int32 → ea_H → Option (Unit × ea_H))} {J49_ : Nat → (Int32 → Int32 → Int32 → Int32 → ea_H → Option (Unit × ea_H))}  (mJ15 : ∀ (x1 : Int32) (x2 : Int32) (x3 : Int32) (x4 : Int32) (h : ea_H), fct (J15 x1 x2 x3 x4 h) (fun f => J15_ f x1 x2 x3 x4 h)) (mJ49 : ∀ (x1 : Int32) (x2 : Int32) (x3 : Int32) (x4 : Int32) (h : ea_H), fct (J49 x1 x2 x3 x4 h) (fun f => J49_ f x1 x2 x3 x4 h)) {x1 : Int32} {x2 : Int32} {x3 : Int32} {x4 : Int32} {h : ea_H} : fct (BX12_leadsOn_49 J15 J49 x1 x2 x3 x4 h) (fun f => BX12_leadsOn_49 (J15_ f) (J49_ f) x1 x2 x3 x4 h) :=
  (fct_gd (fct_ite (fct_gd (fct_ite (fct_bind (fct_rfl _) fun _ => (mJ15 _ _ _ _ _)) (fct_bind (fct_rfl _) fun _ => (mJ15 _ _ _ _ _)))) (fct_bind (fct_rfl _) fun _ => (mJ49 _ _ _ _ _))))
noncomputable def BX12_leadsOn_110 (J110 : Int32 → Int32 → ea_H → Option (Unit × ea_H)) (x2 : Int32) (x3 : Int32) (h : ea_H) : Option (Unit × ea_H) :=
  (if x2 < ((1440 : Int32) * x3) then (some ((), h)) else (Option.bind (qX12_begins (((1440 : Int32) * x3) : Int32) h) fun w15 => (J110 (x2 : Int32) ((x3 + (1 : Int32)) : Int32) w15.2)))
theorem tBX12_leadsOn_110 {d : Nat} {h0 : ea_H} (hd : 7 ≤ d) {J110 : Int32 → Int32 → ea_H → Option (Unit × ea_H)}  (kJ110 : ∀ (x2 : Int32) (x3 : Int32) (h : ea_H) (r : Unit) (h' : ea_H), J110 x2 x3 h = some (r, h') → ShM h → ea_W mX12_leadsOn d h0 none h' 110 [(0, vR (some 326)), (2, vI x2), (3, vI x3)] [] h) {x2 : Int32} {x3 : Int32} {h : ea_H} {r : Unit} {h' : ea_H} (E : BX12_leadsOn_110 J110 x2 x3 h = some (r, h')) (hs : ShM h) : ea_W mX12_leadsOn d h0 none h' 110 [(0, vR (some 326)), (2, vI x2), (3, vI x3)] [] h := by
  unfold BX12_leadsOn_110 at E
  refine ea_sipush (pc := 110) dX12_leadsOn_110 (v := 1440) rfl ?_
  refine ea_iload_n (pc := 113) dX12_leadsOn_113 rfl 2 rfl ?_
  refine ea_imul (pc := 114) dX12_leadsOn_114 ?_
  refine ea_iload_n (pc := 115) dX12_leadsOn_115 rfl 1 rfl ?_
  refine ea_icmp_gt (pc := 116) (tgt := 134) dX12_leadsOn_116 rfl (fun c16 => ?_) (fun c16 => ?_)
  · have E := (if_pos c16).symm.trans E
    exact ea_vretO (pc := 134) dX12_leadsOn_134 rfl E
  · have E := (if_neg c16).symm.trans E
    obtain ⟨w15, Ew15, E⟩ := bd_some E
    have hsw15 : ShM w15.2 := ShM_core ((kpX12_begins _ _) _ Ew15) hs
    refine ea_aload_n (pc := 119) dX12_leadsOn_119 rfl 0 rfl ?_
    refine ea_sipush (pc := 120) dX12_leadsOn_120 (v := 1440) rfl ?_
    refine ea_iload_n (pc := 123) dX12_leadsOn_123 rfl 2 rfl ?_
    refine ea_imul (pc := 124) dX12_leadsOn_124 ?_
    refine ea_callV (pc := 125) (d' := d - 1) (As := [vI ((1440 : Int32) * x3)]) (st := []) dX12_leadsOn_125 kX12_begins (sX12_begins (d := d - 1) (by omega) hs Ew15) (by omega) rfl (Nat.le_of_ble_eq_true rfl) ew_2116 ew_2118 ew_100 (ci := 12) rfl (by decide) (cShM_326 hs).1 (cShM_326 hs).2.1 ?_
    refine ea_iinc (pc := 128) (v := 1) (lv' := [(0, vR (some 326)), (2, vI x2), (3, vI (x3 + (1 : Int32)))]) dX12_leadsOn_128 2 rfl rfl (Nat.le_of_ble_eq_true rfl) [1, 2, 0] rfl ?_
    refine ea_goto (pc := 131) (tgt := 110) dX12_leadsOn_131 rfl ?_
    exact (kJ110 (x2 : Int32) ((x3 + (1 : Int32)) : Int32) w15.2 _ _ E hsw15)
theorem kBX12_leadsOn_110 {J110 : Int32 → Int32 → ea_H → Option (Unit × ea_H)}  (cJ110 : ∀ (x2 : Int32) (x3 : Int32) (h : ea_H), kp (ea_core h) (J110 x2 x3 h)) {x2 : Int32} {x3 : Int32} {h : ea_H} : kp (ea_core h) (BX12_leadsOn_110 J110 x2 x3 h) :=
  (kp_ite (kp_ret rfl) (kp_bind (kp_tw (kpX12_begins _ _) rfl) fun w15 hcw15 => (kp_tw (cJ110 _ _ _) hcw15)))
theorem lBX12_leadsOn_110 {J110 : Int32 → Int32 → ea_H → Option (Unit × ea_H)} {J110_ : Int32 → Int32 → ea_H → Option (Unit × ea_H)}  (mJ110 : ∀ (x2 : Int32) (x3 : Int32) (h : ea_H), fle (J110 x2 x3 h) (J110_ x2 x3 h)) {x2 : Int32} {x3 : Int32} {h : ea_H} : fle (BX12_leadsOn_110 J110 x2 x3 h) (BX12_leadsOn_110 J110_ x2 x3 h) :=
  (fle_ite (fle_rfl _) (fle_bind (fle_rfl _) fun _ => (mJ110 _ _ _)))
theorem nBX12_leadsOn_110 {J110 : Int32 → Int32 → ea_H → Option (Unit × ea_H)} {J110_ : Nat → (Int32 → Int32 → ea_H → Option (Unit × ea_H))}  (mJ110 : ∀ (x2 : Int32) (x3 : Int32) (h : ea_H), fct (J110 x2 x3 h) (fun f => J110_ f x2 x3 h)) {x2 : Int32} {x3 : Int32} {h : ea_H} : fct (BX12_leadsOn_110 J110 x2 x3 h) (fun f => BX12_leadsOn_110 (J110_ f) x2 x3 h) :=
  (fct_ite (fct_rfl _) (fct_bind (fct_rfl _) fun _ => (mJ110 _ _ _)))
noncomputable def gX12_leadsOn : Nat → (Int32 → Int32 → ea_H → Option (Unit × ea_H)) × (Int32 → Int32 → Int32 → Int32 → ea_H → Option (Unit × ea_H)) × (Int32 → Int32 → Int32 → Int32 → ea_H → Option (Unit × ea_H)) × (Int32 → Int32 → ea_H → Option (Unit × ea_H))
  | 0 => (fun _ _ _ => none, fun _ _ _ _ _ => none, fun _ _ _ _ _ => none, fun _ _ _ => none)
  | f + 1 => (BX12_leadsOn_0 (gX12_leadsOn f).2.1, BX12_leadsOn_15 (gX12_leadsOn f).2.1 (gX12_leadsOn f).2.2.1 (gX12_leadsOn f).2.2.2, BX12_leadsOn_49 (gX12_leadsOn f).2.1 (gX12_leadsOn f).2.2.1, BX12_leadsOn_110 (gX12_leadsOn f).2.2.2)
theorem mgX12_leadsOn : ∀ f : Nat, (∀ (x1 : Int32) (x2 : Int32) (h : ea_H), fle ((gX12_leadsOn f).1 x1 x2 h) ((gX12_leadsOn (f + 1)).1 x1 x2 h)) ∧ (∀ (x1 : Int32) (x2 : Int32) (x3 : Int32) (x4 : Int32) (h : ea_H), fle ((gX12_leadsOn f).2.1 x1 x2 x3 x4 h) ((gX12_leadsOn (f + 1)).2.1 x1 x2 x3 x4 h)) ∧ (∀ (x1 : Int32) (x2 : Int32) (x3 : Int32) (x4 : Int32) (h : ea_H), fle ((gX12_leadsOn f).2.2.1 x1 x2 x3 x4 h) ((gX12_leadsOn (f + 1)).2.2.1 x1 x2 x3 x4 h)) ∧ (∀ (x2 : Int32) (x3 : Int32) (h : ea_H), fle ((gX12_leadsOn f).2.2.2 x2 x3 h) ((gX12_leadsOn (f + 1)).2.2.2 x2 x3 h)) := by
  intro f
  induction f with
  | zero => exact ⟨fun _ _ _ => fle_none _, fun _ _ _ _ _ => fle_none _, fun _ _ _ _ _ => fle_none _, fun _ _ _ => fle_none _⟩
  | succ f ih => exact ⟨fun _ _ _ => lBX12_leadsOn_0 ih.2.1, fun _ _ _ _ _ => lBX12_leadsOn_15 ih.2.1 ih.2.2.1 ih.2.2.2, fun _ _ _ _ _ => lBX12_leadsOn_49 ih.2.1 ih.2.2.1, fun _ _ _ => lBX12_leadsOn_110 ih.2.2.2⟩
noncomputable def qX12_leadsOn_0 (x1 : Int32) (x2 : Int32) (h : ea_H) : Option (Unit × ea_H) := flim fun f => (gX12_leadsOn f).1 x1 x2 h
noncomputable def qX12_leadsOn_15 (x1 : Int32) (x2 : Int32) (x3 : Int32) (x4 : Int32) (h : ea_H) : Option (Unit × ea_H) := flim fun f => (gX12_leadsOn f).2.1 x1 x2 x3 x4 h
noncomputable def qX12_leadsOn_49 (x1 : Int32) (x2 : Int32) (x3 : Int32) (x4 : Int32) (h : ea_H) : Option (Unit × ea_H) := flim fun f => (gX12_leadsOn f).2.2.1 x1 x2 x3 x4 h
noncomputable def qX12_leadsOn_110 (x2 : Int32) (x3 : Int32) (h : ea_H) : Option (Unit × ea_H) := flim fun f => (gX12_leadsOn f).2.2.2 x2 x3 h
theorem fqX12_leadsOn_0 (x1 : Int32) (x2 : Int32) (h : ea_H) : fct (qX12_leadsOn_0 x1 x2 h) fun f => (gX12_leadsOn f).1 x1 x2 h := flim_ct fun f => (mgX12_leadsOn f).1 x1 x2 h
theorem fqX12_leadsOn_15 (x1 : Int32) (x2 : Int32) (x3 : Int32) (x4 : Int32) (h : ea_H) : fct (qX12_leadsOn_15 x1 x2 x3 x4 h) fun f => (gX12_leadsOn f).2.1 x1 x2 x3 x4 h := flim_ct fun f => (mgX12_leadsOn f).2.1 x1 x2 x3 x4 h
theorem fqX12_leadsOn_49 (x1 : Int32) (x2 : Int32) (x3 : Int32) (x4 : Int32) (h : ea_H) : fct (qX12_leadsOn_49 x1 x2 x3 x4 h) fun f => (gX12_leadsOn f).2.2.1 x1 x2 x3 x4 h := flim_ct fun f => (mgX12_leadsOn f).2.2.1 x1 x2 x3 x4 h
theorem fqX12_leadsOn_110 (x2 : Int32) (x3 : Int32) (h : ea_H) : fct (qX12_leadsOn_110 x2 x3 h) fun f => (gX12_leadsOn f).2.2.2 x2 x3 h := flim_ct fun f => (mgX12_leadsOn f).2.2.2 x2 x3 h
/-- how a block opens -/
theorem uqX12_leadsOn_0 {x1 : Int32} {x2 : Int32} {h : ea_H} {P : Unit × ea_H → Prop} (H : sat (BX12_leadsOn_0 qX12_leadsOn_15 x1 x2 h) P) : sat (qX12_leadsOn_0 x1 x2 h) P := by
  obtain ⟨x, e, hp⟩ := H
  obtain ⟨n, hn⟩ := nBX12_leadsOn_0 fqX12_leadsOn_15 x e
  exact ⟨x, flim_at (fun f => (mgX12_leadsOn f).1 x1 x2 h) (f := n + 1) (hn n (Nat.le_refl _)), hp⟩
/-- how a block opens -/
theorem uqX12_leadsOn_15 {x1 : Int32} {x2 : Int32} {x3 : Int32} {x4 : Int32} {h : ea_H} {P : Unit × ea_H → Prop} (H : sat (BX12_leadsOn_15 qX12_leadsOn_15 qX12_leadsOn_49 qX12_leadsOn_110 x1 x2 x3 x4 h) P) : sat (qX12_leadsOn_15 x1 x2 x3 x4 h) P := by
  obtain ⟨x, e, hp⟩ := H
  obtain ⟨n, hn⟩ := nBX12_leadsOn_15 fqX12_leadsOn_15 fqX12_leadsOn_49 fqX12_leadsOn_110 x e
  exact ⟨x, flim_at (fun f => (mgX12_leadsOn f).2.1 x1 x2 x3 x4 h) (f := n + 1) (hn n (Nat.le_refl _)), hp⟩
/-- how a block opens -/
theorem uqX12_leadsOn_49 {x1 : Int32} {x2 : Int32} {x3 : Int32} {x4 : Int32} {h : ea_H} {P : Unit × ea_H → Prop} (H : sat (BX12_leadsOn_49 qX12_leadsOn_15 qX12_leadsOn_49 x1 x2 x3 x4 h) P) : sat (qX12_leadsOn_49 x1 x2 x3 x4 h) P := by
  obtain ⟨x, e, hp⟩ := H
  obtain ⟨n, hn⟩ := nBX12_leadsOn_49 fqX12_leadsOn_15 fqX12_leadsOn_49 x e
  exact ⟨x, flim_at (fun f => (mgX12_leadsOn f).2.2.1 x1 x2 x3 x4 h) (f := n + 1) (hn n (Nat.le_refl _)), hp⟩
/-- how a block opens -/
theorem uqX12_leadsOn_110 {x2 : Int32} {x3 : Int32} {h : ea_H} {P : Unit × ea_H → Prop} (H : sat (BX12_leadsOn_110 qX12_leadsOn_110 x2 x3 h) P) : sat (qX12_leadsOn_110 x2 x3 h) P := by
  obtain ⟨x, e, hp⟩ := H
  obtain ⟨n, hn⟩ := nBX12_leadsOn_110 fqX12_leadsOn_110 x e
  exact ⟨x, flim_at (fun f => (mgX12_leadsOn f).2.2.2 x2 x3 h) (f := n + 1) (hn n (Nat.le_refl _)), hp⟩
theorem kgX12_leadsOn : ∀ f : Nat, (∀ (x1 : Int32) (x2 : Int32) (h : ea_H), kp (ea_core h) ((gX12_leadsOn f).1 x1 x2 h)) ∧ (∀ (x1 : Int32) (x2 : Int32) (x3 : Int32) (x4 : Int32) (h : ea_H), kp (ea_core h) ((gX12_leadsOn f).2.1 x1 x2 x3 x4 h)) ∧ (∀ (x1 : Int32) (x2 : Int32) (x3 : Int32) (x4 : Int32) (h : ea_H), kp (ea_core h) ((gX12_leadsOn f).2.2.1 x1 x2 x3 x4 h)) ∧ (∀ (x2 : Int32) (x3 : Int32) (h : ea_H), kp (ea_core h) ((gX12_leadsOn f).2.2.2 x2 x3 h)) := by
  intro f
  induction f with
  | zero => exact ⟨fun _ _ _ => kp_none _, fun _ _ _ _ _ => kp_none _, fun _ _ _ _ _ => kp_none _, fun _ _ _ => kp_none _⟩
  | succ f ih => exact ⟨fun _ _ _ => kBX12_leadsOn_0 ih.2.1, fun _ _ _ _ _ => kBX12_leadsOn_15 ih.2.1 ih.2.2.1 ih.2.2.2, fun _ _ _ _ _ => kBX12_leadsOn_49 ih.2.1 ih.2.2.1, fun _ _ _ => kBX12_leadsOn_110 ih.2.2.2⟩
theorem tgX12_leadsOn {d : Nat} {h0 : ea_H} (hd : 7 ≤ d) : ∀ f : Nat, (∀ (x1 : Int32) (x2 : Int32) (h : ea_H) (r : Unit) (h' : ea_H), (gX12_leadsOn f).1 x1 x2 h = some (r, h') → ShM h → ea_W mX12_leadsOn d h0 none h' 0 [(0, vR (some 326)), (1, vI x1), (2, vI x2)] [] h) ∧ (∀ (x1 : Int32) (x2 : Int32) (x3 : Int32) (x4 : Int32) (h : ea_H) (r : Unit) (h' : ea_H), (gX12_leadsOn f).2.1 x1 x2 x3 x4 h = some (r, h') → ShM h → ea_W mX12_leadsOn d h0 none h' 15 [(0, vR (some 326)), (1, vI x1), (2, vI x2), (3, vI x3), (4, vI x4)] [] h) ∧ (∀ (x1 : Int32) (x2 : Int32) (x3 : Int32) (x4 : Int32) (h : ea_H) (r : Unit) (h' : ea_H), (gX12_leadsOn f).2.2.1 x1 x2 x3 x4 h = some (r, h') → ShM h → ea_W mX12_leadsOn d h0 none h' 49 [(0, vR (some 326)), (1, vI x1), (2, vI x2), (3, vI x3), (4, vI x4)] [] h) ∧ (∀ (x2 : Int32) (x3 : Int32) (h : ea_H) (r : Unit) (h' : ea_H), (gX12_leadsOn f).2.2.2 x2 x3 h = some (r, h') → ShM h → ea_W mX12_leadsOn d h0 none h' 110 [(0, vR (some 326)), (2, vI x2), (3, vI x3)] [] h) := by
  intro f
  induction f with
  | zero => exact ⟨fun _ _ _ _ _ E => no_some E, fun _ _ _ _ _ _ _ E => no_some E, fun _ _ _ _ _ _ _ E => no_some E, fun _ _ _ _ _ E => no_some E⟩
  | succ f ih => exact ⟨fun _ _ _ _ _ E hs => tBX12_leadsOn_0 hd ih.2.1 E hs, fun _ _ _ _ _ _ _ E hs => tBX12_leadsOn_15 hd ih.2.1 ih.2.2.1 ih.2.2.2 E hs, fun _ _ _ _ _ _ _ E hs => tBX12_leadsOn_49 hd ih.2.1 ih.2.2.1 E hs, fun _ _ _ _ _ E hs => tBX12_leadsOn_110 hd ih.2.2.2 E hs⟩
noncomputable def qX12_leadsOn (x1 : Int32) (x2 : Int32) (h : ea_H) : Option (Unit × ea_H) := qX12_leadsOn_0 x1 x2 h
theorem sX12_leadsOn {d : Nat} {x1 : Int32} {x2 : Int32} {h : ea_H} {r : Unit} {h' : ea_H} (hd : 7 ≤ d) (hs : ShM h) (K : qX12_leadsOn x1 x2 h = some (r, h')) : ea_Met mX12_leadsOn d [vR (some 326), vI x1, vI x2] h none h' := by
  unfold qX12_leadsOn at K
  obtain ⟨n, hn⟩ := fqX12_leadsOn_0 x1 x2 h _ K
  have W := (tgX12_leadsOn (d := d) (h0 := h) hd n).1 x1 x2 h _ _ (hn n (Nat.le_refl _)) hs
  exact ea_enter rfl (Nat.le_of_ble_eq_true rfl) W
theorem kpX12_leadsOn (x1 : Int32) (x2 : Int32) (h : ea_H) : kp (ea_core h) (qX12_leadsOn x1 x2 h) := fun x e => by
  obtain ⟨n, hn⟩ := fqX12_leadsOn_0 x1 x2 h x e
  exact (kgX12_leadsOn n).1 x1 x2 h x (hn n (Nat.le_refl _))
noncomputable def BX12_minutes_0 (x1 : Int32) (h : ea_H) : Option (Int32 × ea_H) :=
  (Option.bind (qX12_isIn (x1 : Int32) (1 : Int32) (3000 : Int32) h) fun w1 => (if w1.1 = (0 : Int32) then (some (((-1) : Int32), w1.2)) else (if (ea_i w1.2 326 0) ≤ ((10079 : Int32) - x1) then (Option.bind (qX12_leadsOn ((ea_i w1.2 326 0) : Int32) (((ea_i w1.2 326 0) + x1) : Int32) w1.2) fun w2 => (ea_let (ea_wi w2.2 326 0 ((ea_i w2.2 326 0) + x1)) fun H3 => (some ((ea_i H3 326 0), H3)))) else (some (((-1) : Int32), w1.2)))))
theorem tBX12_minutes_0 {d : Nat} {h0 : ea_H} (hd : 8 ≤ d)  {x1 : Int32} {h : ea_H} {r : Int32} {h' : ea_H} (E : BX12_minutes_0 x1 h = some (r, h')) (hs : ShM h) : ea_W mX12_minutes d h0 (some (vI r)) h' 0 [(0, vR (some 326)), (1, vI x1)] [] h := by
  unfold BX12_minutes_0 at E
  obtain ⟨w1, Ew1, E⟩ := bd_some E
  have hsw1 : ShM w1.2 := ShM_core ((kpX12_isIn _ _ _ _) _ Ew1) hs
  refine ea_iload_n (pc := 0) dX12_minutes_0 rfl 1 rfl ?_
  refine ea_iconst (pc := 1) dX12_minutes_1 (v := 1) rfl ?_
  refine ea_sipush (pc := 2) dX12_minutes_2 (v := 3000) rfl ?_
  refine ea_callS (pc := 5) (d' := d - 1) (As := [vI x1, vI 1, vI 3000]) (st := []) dX12_minutes_5 kX12_isIn (sX12_isIn (d := d - 1) (by omega) Ew1) (by omega) rfl (Nat.le_of_ble_eq_true rfl) ew_1769 ew_1770 ?_
  refine ea_if_eq (pc := 8) (tgt := 23) dX12_minutes_8 rfl (fun c5 => ?_) (fun c5 => ?_)
  · have E := (if_pos c5).symm.trans E
    refine ea_iconst (pc := 23) dX12_minutes_23 (v := (-1)) rfl ?_
    exact ea_iretO (pc := 24) dX12_minutes_24 rfl rfl E
  · have E := (if_neg c5).symm.trans E
    refine ea_aload_n (pc := 11) dX12_minutes_11 rfl 0 rfl ?_
    refine ea_getI (pc := 12) dX12_minutes_12 ec_12 (k := 0) (Nat.le_of_ble_eq_true rfl) rfl (Or.inl ew_1402) (cShM_326 hsw1).1 (cShM_326 hsw1).2.1 ?_
    refine ea_sipush (pc := 15) dX12_minutes_15 (v := 10079) rfl ?_
    refine ea_iload_n (pc := 18) dX12_minutes_18 rfl 1 rfl ?_
    refine ea_isub (pc := 19) dX12_minutes_19 ?_
    refine ea_icmp_le (pc := 20) (tgt := 25) dX12_minutes_20 rfl (fun c4 => ?_) (fun c4 => ?_)
    · have E := (if_pos c4).symm.trans E
      obtain ⟨w2, Ew2, E⟩ := bd_some E
      have hsw2 : ShM w2.2 := ShM_core ((kpX12_leadsOn _ _ _) _ Ew2) hsw1
      refine ea_aload_n (pc := 25) dX12_minutes_25 rfl 0 rfl ?_
      refine ea_aload_n (pc := 26) dX12_minutes_26 rfl 0 rfl ?_
      refine ea_getI (pc := 27) dX12_minutes_27 ec_12 (k := 0) (Nat.le_of_ble_eq_true rfl) rfl (Or.inl ew_1402) (cShM_326 hsw1).1 (cShM_326 hsw1).2.1 ?_
      refine ea_aload_n (pc := 30) dX12_minutes_30 rfl 0 rfl ?_
      refine ea_getI (pc := 31) dX12_minutes_31 ec_12 (k := 0) (Nat.le_of_ble_eq_true rfl) rfl (Or.inl ew_1402) (cShM_326 hsw1).1 (cShM_326 hsw1).2.1 ?_
      refine ea_iload_n (pc := 34) dX12_minutes_34 rfl 1 rfl ?_
      refine ea_iadd (pc := 35) dX12_minutes_35 ?_
      refine ea_callV (pc := 36) (d' := d - 1) (As := [vI (ea_i w1.2 326 0), vI ((ea_i w1.2 326 0) + x1)]) (st := []) dX12_minutes_36 kX12_leadsOn (sX12_leadsOn (d := d - 1) (by omega) hsw1 Ew2) (by omega) rfl (Nat.le_of_ble_eq_true rfl) ew_2112 ew_2114 ew_99 (ci := 12) rfl (by decide) (cShM_326 hsw1).1 (cShM_326 hsw1).2.1 ?_
      obtain ⟨H3, eH3, E⟩ := let_some E
      refine ea_aload_n (pc := 39) dX12_minutes_39 rfl 0 rfl ?_
      refine ea_dup (pc := 40) dX12_minutes_40 rfl ?_
      refine ea_getI (pc := 41) dX12_minutes_41 ec_12 (k := 0) (Nat.le_of_ble_eq_true rfl) rfl (Or.inl ew_1402) (cShM_326 hsw2).1 (cShM_326 hsw2).2.1 ?_
      refine ea_iload_n (pc := 44) dX12_minutes_44 rfl 1 rfl ?_
      refine ea_iadd (pc := 45) dX12_minutes_45 ?_
      refine ea_putI (pc := 46) dX12_minutes_46 ec_12 (k := 0) (Nat.le_of_ble_eq_true rfl) rfl (Or.inl ⟨rfl, Or.inl ew_1402⟩) rfl rfl (cShM_326 hsw2).1 (cShM_326 hsw2).2.1 ?_
      refine ea_nm eH3 ?_
      have hsH3 : ShM H3 := by rw [eH3]; exact hsw2
      refine ea_aload_n (pc := 49) dX12_minutes_49 rfl 0 rfl ?_
      refine ea_getI (pc := 50) dX12_minutes_50 ec_12 (k := 0) (Nat.le_of_ble_eq_true rfl) rfl (Or.inl ew_1402) (cShM_326 hsH3).1 (cShM_326 hsH3).2.1 ?_
      exact ea_iretO (pc := 53) dX12_minutes_53 rfl rfl E
    · have E := (if_neg c4).symm.trans E
      refine ea_iconst (pc := 23) dX12_minutes_23 (v := (-1)) rfl ?_
      exact ea_iretO (pc := 24) dX12_minutes_24 rfl rfl E
theorem kBX12_minutes_0  {x1 : Int32} {h : ea_H} : kp (ea_core h) (BX12_minutes_0 x1 h) :=
  (kp_bind (kp_tw (kpX12_isIn _ _ _ _) rfl) fun w1 hcw1 => (kp_ite (kp_ret hcw1) (kp_ite (kp_bind (kp_tw (kpX12_leadsOn _ _ _) hcw1) fun w2 hcw2 => (kp_let (kp_ret hcw2))) (kp_ret hcw1))))
noncomputable def qX12_minutes (x1 : Int32) (h : ea_H) : Option (Int32 × ea_H) := BX12_minutes_0 x1 h
theorem sX12_minutes {d : Nat} {x1 : Int32} {h : ea_H} {r : Int32} {h' : ea_H} (hd : 8 ≤ d) (hs : ShM h) (K : qX12_minutes x1 h = some (r, h')) : ea_Met mX12_minutes d [vR (some 326), vI x1] h (some (vI r)) h' := by
  unfold qX12_minutes at K
  have W := tBX12_minutes_0 hd (h0 := h) K hs
  exact ea_enter rfl (Nat.le_of_ble_eq_true rfl) W
theorem kpX12_minutes (x1 : Int32) (h : ea_H) : kp (ea_core h) (qX12_minutes x1 h) := kBX12_minutes_0
noncomputable def BX12_sums_0 (J19 : Int32 → Int32 → ea_H → Option (Int32 × ea_H)) (h : ea_H) : Option (Int32 × ea_H) :=
  (Option.bind (qX12_keeps  h) fun w1 => (Option.bind (qX12_leadsOn ((ea_i w1.2 326 0) : Int32) (10079 : Int32) w1.2) fun w2 => (J19 (0 : Int32) (0 : Int32) w2.2)))
theorem tBX12_sums_0 {d : Nat} {h0 : ea_H} (hd : 8 ≤ d) {J19 : Int32 → Int32 → ea_H → Option (Int32 × ea_H)}  (kJ19 : ∀ (x1 : Int32) (x2 : Int32) (h : ea_H) (r : Int32) (h' : ea_H), J19 x1 x2 h = some (r, h') → ShM h → ea_W mX12_sums d h0 (some (vI r)) h' 19 [(0, vR (some 326)), (1, vI x1), (2, vI x2)] [] h) {h : ea_H} {r : Int32} {h' : ea_H} (E : BX12_sums_0 J19 h = some (r, h')) (hs : ShM h) : ea_W mX12_sums d h0 (some (vI r)) h' 0 [(0, vR (some 326))] [] h := by
  unfold BX12_sums_0 at E
  obtain ⟨w1, Ew1, E⟩ := bd_some E
  have hsw1 : ShM w1.2 := ShM_core ((kpX12_keeps _) _ Ew1) hs
  refine ea_aload_n (pc := 0) dX12_sums_0 rfl 0 rfl ?_
  refine ea_callV (pc := 1) (d' := d - 1) (As := []) (st := []) dX12_sums_1 kX12_keeps (sX12_keeps (d := d - 1) (by omega) hs Ew1) (by omega) rfl (Nat.le_of_ble_eq_true rfl) ew_2236 ew_2238 ew_112 (ci := 12) rfl (by decide) (cShM_326 hs).1 (cShM_326 hs).2.1 ?_
  obtain ⟨w2, Ew2, E⟩ := bd_some E
  have hsw2 : ShM w2.2 := ShM_core ((kpX12_leadsOn _ _ _) _ Ew2) hsw1
  refine ea_aload_n (pc := 4) dX12_sums_4 rfl 0 rfl ?_
  refine ea_aload_n (pc := 5) dX12_sums_5 rfl 0 rfl ?_
  refine ea_getI (pc := 6) dX12_sums_6 ec_12 (k := 0) (Nat.le_of_ble_eq_true rfl) rfl (Or.inl ew_1402) (cShM_326 hsw1).1 (cShM_326 hsw1).2.1 ?_
  refine ea_sipush (pc := 9) dX12_sums_9 (v := 10079) rfl ?_
  refine ea_callV (pc := 12) (d' := d - 1) (As := [vI (ea_i w1.2 326 0), vI 10079]) (st := []) dX12_sums_12 kX12_leadsOn (sX12_leadsOn (d := d - 1) (by omega) hsw1 Ew2) (by omega) rfl (Nat.le_of_ble_eq_true rfl) ew_2112 ew_2114 ew_99 (ci := 12) rfl (by decide) (cShM_326 hsw1).1 (cShM_326 hsw1).2.1 ?_
  refine ea_iconst (pc := 15) dX12_sums_15 (v := 0) rfl ?_
  refine ea_istore_n (pc := 16) (lv' := [(0, vR (some 326)), (1, vI 0)]) dX12_sums_16 rfl (Nat.le_of_ble_eq_true rfl) [1, 0] rfl ?_
  refine ea_iconst (pc := 17) dX12_sums_17 (v := 0) rfl ?_
  refine ea_istore_n (pc := 18) (lv' := [(0, vR (some 326)), (1, vI 0), (2, vI 0)]) dX12_sums_18 rfl (Nat.le_of_ble_eq_true rfl) [1, 2, 0] rfl ?_
  exact (kJ19 (0 : Int32) (0 : Int32) w2.2 _ _ E hsw2)
theorem kBX12_sums_0 {J19 : Int32 → Int32 → ea_H → Option (Int32 × ea_H)}  (cJ19 : ∀ (x1 : Int32) (x2 : Int32) (h : ea_H), kp (ea_core h) (J19 x1 x2 h)) {h : ea_H} : kp (ea_core h) (BX12_sums_0 J19 h) :=
  (kp_bind (kp_tw (kpX12_keeps _) rfl) fun w1 hcw1 => (kp_bind (kp_tw (kpX12_leadsOn _ _ _) hcw1) fun w2 hcw2 => (kp_tw (cJ19 _ _ _) hcw2)))
theorem lBX12_sums_0 {J19 : Int32 → Int32 → ea_H → Option (Int32 × ea_H)} {J19_ : Int32 → Int32 → ea_H → Option (Int32 × ea_H)}  (mJ19 : ∀ (x1 : Int32) (x2 : Int32) (h : ea_H), fle (J19 x1 x2 h) (J19_ x1 x2 h)) {h : ea_H} : fle (BX12_sums_0 J19 h) (BX12_sums_0 J19_ h) :=
  (fle_bind (fle_rfl _) fun _ => (fle_bind (fle_rfl _) fun _ => (mJ19 _ _ _)))
theorem nBX12_sums_0 {J19 : Int32 → Int32 → ea_H → Option (Int32 × ea_H)} {J19_ : Nat → (Int32 → Int32 → ea_H → Option (Int32 × ea_H))}  (mJ19 : ∀ (x1 : Int32) (x2 : Int32) (h : ea_H), fct (J19 x1 x2 h) (fun f => J19_ f x1 x2 h)) {h : ea_H} : fct (BX12_sums_0 J19 h) (fun f => BX12_sums_0 (J19_ f) h) :=
  (fct_bind (fct_rfl _) fun _ => (fct_bind (fct_rfl _) fun _ => (mJ19 _ _ _)))
noncomputable def BX12_sums_19 (J19 : Int32 → Int32 → ea_H → Option (Int32 × ea_H)) (x1 : Int32) (x2 : Int32) (h : ea_H) : Option (Int32 × ea_H) :=
  (if (ea_i h 326 63) ≤ x2 then (Option.bind (qX12_putsBack  h) fun w3 => (some (x1, w3.2))) else (gd (vp_in x2 120) (if (ea_i h 381 (Int32.toNatClampNeg x2)) = (2 : Int32) then (gd (vp_in x2 120) (ea_let (x1 + (ea_i h 385 (Int32.toNatClampNeg x2))) fun (v10 : Int32) => (J19 (v10 : Int32) ((x2 + (1 : Int32)) : Int32) h))) else (gd (vp_in x2 120) (if (2 : Int32) ≤ (ea_i h 381 (Int32.toNatClampNeg x2)) then (ea_let (x1 + (0 : Int32)) fun (v6 : Int32) => (J19 (v6 : Int32) ((x2 + (1 : Int32)) : Int32) h)) else (ea_let (x1 + (10080 : Int32)) fun (v7 : Int32) => (J19 (v7 : Int32) ((x2 + (1 : Int32)) : Int32) h)))))))
theorem tBX12_sums_19 {d : Nat} {h0 : ea_H} (hd : 8 ≤ d) {J19 : Int32 → Int32 → ea_H → Option (Int32 × ea_H)}  (kJ19 : ∀ (x1 : Int32) (x2 : Int32) (h : ea_H) (r : Int32) (h' : ea_H), J19 x1 x2 h = some (r, h') → ShM h → ea_W mX12_sums d h0 (some (vI r)) h' 19 [(0, vR (some 326)), (1, vI x1), (2, vI x2)] [] h) {x1 : Int32} {x2 : Int32} {h : ea_H} {r : Int32} {h' : ea_H} (E : BX12_sums_19 J19 x1 x2 h = some (r, h')) (hs : ShM h) : ea_W mX12_sums d h0 (some (vI r)) h' 19 [(0, vR (some 326)), (1, vI x1), (2, vI x2)] [] h := by
  unfold BX12_sums_19 at E
  refine ea_iload_n (pc := 19) dX12_sums_19 rfl 2 rfl ?_
  refine ea_aload_n (pc := 20) dX12_sums_20 rfl 0 rfl ?_
  refine ea_getI (pc := 21) dX12_sums_21 ec_12 (k := 63) (Nat.le_of_ble_eq_true rfl) rfl (Or.inl ew_1465) (cShM_326 hs).1 (cShM_326 hs).2.1 ?_
  refine ea_icmp_ge (pc := 24) (tgt := 72) dX12_sums_24 rfl (fun c12 => ?_) (fun c12 => ?_)
  · have E := (if_pos c12).symm.trans E
    obtain ⟨w3, Ew3, E⟩ := bd_some E
    have hsw3 : ShM w3.2 := ShM_core ((kpX12_putsBack _) _ Ew3) hs
    refine ea_aload_n (pc := 72) dX12_sums_72 rfl 0 rfl ?_
    refine ea_callV (pc := 73) (d' := d - 1) (As := []) (st := []) dX12_sums_73 kX12_putsBack (sX12_putsBack (d := d - 1) (by omega) hs Ew3) (by omega) rfl (Nat.le_of_ble_eq_true rfl) ew_2240 ew_2242 ew_113 (ci := 12) rfl (by decide) (cShM_326 hs).1 (cShM_326 hs).2.1 ?_
    refine ea_iload_n (pc := 76) dX12_sums_76 rfl 1 rfl ?_
    exact ea_iretO (pc := 77) dX12_sums_77 rfl rfl E
  · have E := (if_neg c12).symm.trans E
    obtain ⟨z4, E⟩ := gd_some E
    refine ea_iload_n (pc := 27) dX12_sums_27 rfl 1 rfl ?_
    refine ea_aload_n (pc := 28) dX12_sums_28 rfl 0 rfl ?_
    refine ea_getR (pc := 29) dX12_sums_29 ec_12 (k := 81) (Nat.le_of_ble_eq_true rfl) rfl (Or.inl ew_1483) (cShM_326 hs).1 (cShM_326 hs).2.1 (rShM_326_81 hs) ?_
    refine ea_iload_n (pc := 32) dX12_sums_32 rfl 2 rfl ?_
    refine ea_iald (pc := 33) dX12_sums_33 (cShM_381 hs).1 (cShM_381 hs).2.1 (ea_vpl (cShM_381 hs).2.2 z4) ?_
    refine ea_iconst (pc := 34) dX12_sums_34 (v := 2) rfl ?_
    refine ea_icmp_ne (pc := 35) (tgt := 47) dX12_sums_35 rfl (fun c11 => ?_) (fun c11 => ?_)
    · have E := (if_neg c11).symm.trans E
      obtain ⟨z5, E⟩ := gd_some E
      refine ea_aload_n (pc := 47) dX12_sums_47 rfl 0 rfl ?_
      refine ea_getR (pc := 48) dX12_sums_48 ec_12 (k := 81) (Nat.le_of_ble_eq_true rfl) rfl (Or.inl ew_1483) (cShM_326 hs).1 (cShM_326 hs).2.1 (rShM_326_81 hs) ?_
      refine ea_iload_n (pc := 51) dX12_sums_51 rfl 2 rfl ?_
      refine ea_iald (pc := 52) dX12_sums_52 (cShM_381 hs).1 (cShM_381 hs).2.1 (ea_vpl (cShM_381 hs).2.2 z5) ?_
      refine ea_iconst (pc := 53) dX12_sums_53 (v := 2) rfl ?_
      refine ea_icmp_ge (pc := 54) (tgt := 63) dX12_sums_54 rfl (fun c8 => ?_) (fun c8 => ?_)
      · have E := (if_pos c8).symm.trans E
        obtain ⟨v6, ev6, E⟩ := let_some E
        refine ea_iconst (pc := 63) dX12_sums_63 (v := 0) rfl ?_
        refine ea_iadd (pc := 64) dX12_sums_64 ?_
        refine ea_istore_n (pc := 65) (lv' := [(0, vR (some 326)), (1, vI v6), (2, vI x2)]) dX12_sums_65 rfl (Nat.le_of_ble_eq_true rfl) [1, 0, 2] (by rw [ev6]; rfl) ?_
        refine ea_iinc (pc := 66) (v := 1) (lv' := [(0, vR (some 326)), (1, vI v6), (2, vI (x2 + (1 : Int32)))]) dX12_sums_66 2 rfl rfl (Nat.le_of_ble_eq_true rfl) [1, 2, 0] rfl ?_
        refine ea_goto (pc := 69) (tgt := 19) dX12_sums_69 rfl ?_
        exact (kJ19 (v6 : Int32) ((x2 + (1 : Int32)) : Int32) h _ _ E hs)
      · have E := (if_neg c8).symm.trans E
        obtain ⟨v7, ev7, E⟩ := let_some E
        refine ea_sipush (pc := 57) dX12_sums_57 (v := 10080) rfl ?_
        refine ea_goto (pc := 60) (tgt := 64) dX12_sums_60 rfl ?_
        refine ea_iadd (pc := 64) dX12_sums_64 ?_
        refine ea_istore_n (pc := 65) (lv' := [(0, vR (some 326)), (1, vI v7), (2, vI x2)]) dX12_sums_65 rfl (Nat.le_of_ble_eq_true rfl) [1, 0, 2] (by rw [ev7]; rfl) ?_
        refine ea_iinc (pc := 66) (v := 1) (lv' := [(0, vR (some 326)), (1, vI v7), (2, vI (x2 + (1 : Int32)))]) dX12_sums_66 2 rfl rfl (Nat.le_of_ble_eq_true rfl) [1, 2, 0] rfl ?_
        refine ea_goto (pc := 69) (tgt := 19) dX12_sums_69 rfl ?_
        exact (kJ19 (v7 : Int32) ((x2 + (1 : Int32)) : Int32) h _ _ E hs)
    · have E := (if_pos c11).symm.trans E
      obtain ⟨z9, E⟩ := gd_some E
      refine ea_aload_n (pc := 38) dX12_sums_38 rfl 0 rfl ?_
      refine ea_getR (pc := 39) dX12_sums_39 ec_12 (k := 85) (Nat.le_of_ble_eq_true rfl) rfl (Or.inl ew_1487) (cShM_326 hs).1 (cShM_326 hs).2.1 (rShM_326_85 hs) ?_
      refine ea_iload_n (pc := 42) dX12_sums_42 rfl 2 rfl ?_
      obtain ⟨v10, ev10, E⟩ := let_some E
      refine ea_iald (pc := 43) dX12_sums_43 (cShM_385 hs).1 (cShM_385 hs).2.1 (ea_vpl (cShM_385 hs).2.2 z9) ?_
      refine ea_goto (pc := 44) (tgt := 64) dX12_sums_44 rfl ?_
      refine ea_iadd (pc := 64) dX12_sums_64 ?_
      refine ea_istore_n (pc := 65) (lv' := [(0, vR (some 326)), (1, vI v10), (2, vI x2)]) dX12_sums_65 rfl (Nat.le_of_ble_eq_true rfl) [1, 0, 2] (by rw [ev10]; rfl) ?_
      refine ea_iinc (pc := 66) (v := 1) (lv' := [(0, vR (some 326)), (1, vI v10), (2, vI (x2 + (1 : Int32)))]) dX12_sums_66 2 rfl rfl (Nat.le_of_ble_eq_true rfl) [1, 2, 0] rfl ?_
      refine ea_goto (pc := 69) (tgt := 19) dX12_sums_69 rfl ?_
      exact (kJ19 (v10 : Int32) ((x2 + (1 : Int32)) : Int32) h _ _ E hs)
theorem kBX12_sums_19 {J19 : Int32 → Int32 → ea_H → Option (Int32 × ea_H)}  (cJ19 : ∀ (x1 : Int32) (x2 : Int32) (h : ea_H), kp (ea_core h) (J19 x1 x2 h)) {x1 : Int32} {x2 : Int32} {h : ea_H} : kp (ea_core h) (BX12_sums_19 J19 x1 x2 h) :=
  (kp_ite (kp_bind (kp_tw (kpX12_putsBack _) rfl) fun w3 hcw3 => (kp_ret hcw3)) (kp_gd (kp_ite (kp_gd (kp_let (kp_tw (cJ19 _ _ _) rfl))) (kp_gd (kp_ite (kp_let (kp_tw (cJ19 _ _ _) rfl)) (kp_let (kp_tw (cJ19 _ _ _) rfl)))))))
theorem lBX12_sums_19 {J19 : Int32 → Int32 → ea_H → Option (Int32 × ea_H)} {J19_ : Int32 → Int32 → ea_H → Option (Int32 × ea_H)}  (mJ19 : ∀ (x1 : Int32) (x2 : Int32) (h : ea_H), fle (J19 x1 x2 h) (J19_ x1 x2 h)) {x1 : Int32} {x2 : Int32} {h : ea_H} : fle (BX12_sums_19 J19 x1 x2 h) (BX12_sums_19 J19_ x1 x2 h) :=
  (fle_ite (fle_rfl _) (fle_gd (fle_ite (fle_gd (fle_let fun _ => (mJ19 _ _ _))) (fle_gd (fle_ite (fle_let fun _ => (mJ19 _ _ _)) (fle_let fun _ => (mJ19 _ _ _)))))))
theorem nBX12_sums_19 {J19 : Int32 → Int32 → ea_H → Option (Int32 × ea_H)} {J19_ : Nat → (Int32 → Int32 → ea_H → Option (Int32 × ea_H))}  (mJ19 : ∀ (x1 : Int32) (x2 : Int32) (h : ea_H), fct (J19 x1 x2 h) (fun f => J19_ f x1 x2 h)) {x1 : Int32} {x2 : Int32} {h : ea_H} : fct (BX12_sums_19 J19 x1 x2 h) (fun f => BX12_sums_19 (J19_ f) x1 x2 h) :=
  (fct_ite (fct_rfl _) (fct_gd (fct_ite (fct_gd (fct_let fun _ => (mJ19 _ _ _))) (fct_gd (fct_ite (fct_let fun _ => (mJ19 _ _ _)) (fct_let fun _ => (mJ19 _ _ _)))))))
noncomputable def gX12_sums : Nat → (ea_H → Option (Int32 × ea_H)) × (Int32 → Int32 → ea_H → Option (Int32 × ea_H))
  | 0 => (fun _ => none, fun _ _ _ => none)
  | f + 1 => (BX12_sums_0 (gX12_sums f).2, BX12_sums_19 (gX12_sums f).2)
theorem mgX12_sums : ∀ f : Nat, (∀ (h : ea_H), fle ((gX12_sums f).1 h) ((gX12_sums (f + 1)).1 h)) ∧ (∀ (x1 : Int32) (x2 : Int32) (h : ea_H), fle ((gX12_sums f).2 x1 x2 h) ((gX12_sums (f + 1)).2 x1 x2 h)) := by
  intro f
  induction f with
  | zero => exact ⟨fun _ => fle_none _, fun _ _ _ => fle_none _⟩
  | succ f ih => exact ⟨fun _ => lBX12_sums_0 ih.2, fun _ _ _ => lBX12_sums_19 ih.2⟩
noncomputable def qX12_sums_0 (h : ea_H) : Option (Int32 × ea_H) := flim fun f => (gX12_sums f).1 h
noncomputable def qX12_sums_19 (x1 : Int32) (x2 : Int32) (h : ea_H) : Option (Int32 × ea_H) := flim fun f => (gX12_sums f).2 x1 x2 h
theorem fqX12_sums_0 (h : ea_H) : fct (qX12_sums_0 h) fun f => (gX12_sums f).1 h := flim_ct fun f => (mgX12_sums f).1 h
theorem fqX12_sums_19 (x1 : Int32) (x2 : Int32) (h : ea_H) : fct (qX12_sums_19 x1 x2 h) fun f => (gX12_sums f).2 x1 x2 h := flim_ct fun f => (mgX12_sums f).2 x1 x2 h
/-- how a block opens -/
theorem uqX12_sums_0 {h : ea_H} {P : Int32 × ea_H → Prop} (H : sat (BX12_sums_0 qX12_sums_19 h) P) : sat (qX12_sums_0 h) P := by
  obtain ⟨x, e, hp⟩ := H
  obtain ⟨n, hn⟩ := nBX12_sums_0 fqX12_sums_19 x e
  exact ⟨x, flim_at (fun f => (mgX12_sums f).1 h) (f := n + 1) (hn n (Nat.le_refl _)), hp⟩
/-- how a block opens -/
theorem uqX12_sums_19 {x1 : Int32} {x2 : Int32} {h : ea_H} {P : Int32 × ea_H → Prop} (H : sat (BX12_sums_19 qX12_sums_19 x1 x2 h) P) : sat (qX12_sums_19 x1 x2 h) P := by
  obtain ⟨x, e, hp⟩ := H
  obtain ⟨n, hn⟩ := nBX12_sums_19 fqX12_sums_19 x e
  exact ⟨x, flim_at (fun f => (mgX12_sums f).2 x1 x2 h) (f := n + 1) (hn n (Nat.le_refl _)), hp⟩
theorem kgX12_sums : ∀ f : Nat, (∀ (h : ea_H), kp (ea_core h) ((gX12_sums f).1 h)) ∧ (∀ (x1 : Int32) (x2 : Int32) (h : ea_H), kp (ea_core h) ((gX12_sums f).2 x1 x2 h)) := by
  intro f
  induction f with
  | zero => exact ⟨fun _ => kp_none _, fun _ _ _ => kp_none _⟩
  | succ f ih => exact ⟨fun _ => kBX12_sums_0 ih.2, fun _ _ _ => kBX12_sums_19 ih.2⟩
theorem tgX12_sums {d : Nat} {h0 : ea_H} (hd : 8 ≤ d) : ∀ f : Nat, (∀ (h : ea_H) (r : Int32) (h' : ea_H), (gX12_sums f).1 h = some (r, h') → ShM h → ea_W mX12_sums d h0 (some (vI r)) h' 0 [(0, vR (some 326))] [] h) ∧ (∀ (x1 : Int32) (x2 : Int32) (h : ea_H) (r : Int32) (h' : ea_H), (gX12_sums f).2 x1 x2 h = some (r, h') → ShM h → ea_W mX12_sums d h0 (some (vI r)) h' 19 [(0, vR (some 326)), (1, vI x1), (2, vI x2)] [] h) := by
  intro f
  induction f with
  | zero => exact ⟨fun _ _ _ E => no_some E, fun _ _ _ _ _ E => no_some E⟩
  | succ f ih => exact ⟨fun _ _ _ E hs => tBX12_sums_0 hd ih.2 E hs, fun _ _ _ _ _ E hs => tBX12_sums_19 hd ih.2 E hs⟩
noncomputable def qX12_sums (h : ea_H) : Option (Int32 × ea_H) := qX12_sums_0  h
theorem sX12_sums {d : Nat} {h : ea_H} {r : Int32} {h' : ea_H} (hd : 8 ≤ d) (hs : ShM h) (K : qX12_sums h = some (r, h')) : ea_Met mX12_sums d [vR (some 326)] h (some (vI r)) h' := by
  unfold qX12_sums at K
  obtain ⟨n, hn⟩ := fqX12_sums_0  h _ K
  have W := (tgX12_sums (d := d) (h0 := h) hd n).1  h _ _ (hn n (Nat.le_refl _)) hs
  exact ea_enter rfl (Nat.le_of_ble_eq_true rfl) W
theorem kpX12_sums (h : ea_H) : kp (ea_core h) (qX12_sums h) := fun x e => by
  obtain ⟨n, hn⟩ := fqX12_sums_0  h x e
  exact (kgX12_sums n).1  h x (hn n (Nat.le_refl _))
noncomputable def BX12_whatIf_0 (x1 : Int32) (x2 : Int32) (x3 : Int32) (h : ea_H) : Option (Int32 × ea_H) :=
  (if x1 = ((-1) : Int32) then (Option.bind (qX12_sums  h) fun w15 => (some (w15.1, w15.2))) else (Option.bind (qX12_canBeLate (x1 : Int32) (x2 : Int32) (x3 : Int32) h) fun w1 => (if w1.1 = (0 : Int32) then (some (((-1) : Int32), w1.2)) else (Option.bind (qX12_run (x1 : Int32) (x2 : Int32) w1.2) fun w2 => (gd (vp_in w2.1 70) (ea_let (ea_i w2.2 332 (Int32.toNatClampNeg w2.1)) fun (v4 : Int32) => (Option.bind (qX12_run (x1 : Int32) (x2 : Int32) w2.2) fun w5 => (gd (vp_in w5.1 70) (ea_let (ea_wi w5.2 332 (Int32.toNatClampNeg w5.1) x3) fun H7 => (ea_let (ea_wi H7 326 12 0) fun H8 => (Option.bind (qX12_sums  H8) fun w9 => (Option.bind (qX12_run (x1 : Int32) (x2 : Int32) w9.2) fun w10 => (gd (vp_in w10.1 70) (ea_let (ea_wi w10.2 332 (Int32.toNatClampNeg w10.1) v4) fun H12 => (ea_let (ea_wi H12 326 12 0) fun H13 => (some (w9.1, H13)))))))))))))))))
theorem tBX12_whatIf_0 {d : Nat} {h0 : ea_H} (hd : 9 ≤ d)  {x1 : Int32} {x2 : Int32} {x3 : Int32} {h : ea_H} {r : Int32} {h' : ea_H} (E : BX12_whatIf_0 x1 x2 x3 h = some (r, h')) (hs : ShM h) : ea_W mX12_whatIf d h0 (some (vI r)) h' 0 [(0, vR (some 326)), (1, vI x1), (2, vI x2), (3, vI x3)] [] h := by
  unfold BX12_whatIf_0 at E
  refine ea_iload_n (pc := 0) dX12_whatIf_0 rfl 1 rfl ?_
  refine ea_iconst (pc := 1) dX12_whatIf_1 (v := (-1)) rfl ?_
  refine ea_icmp_ne (pc := 2) (tgt := 10) dX12_whatIf_2 rfl (fun c16 => ?_) (fun c16 => ?_)
  · have E := (if_neg c16).symm.trans E
    obtain ⟨w1, Ew1, E⟩ := bd_some E
    have hsw1 : ShM w1.2 := ShM_core ((kpX12_canBeLate _ _ _ _) _ Ew1) hs
    refine ea_aload_n (pc := 10) dX12_whatIf_10 rfl 0 rfl ?_
    refine ea_iload_n (pc := 11) dX12_whatIf_11 rfl 1 rfl ?_
    refine ea_iload_n (pc := 12) dX12_whatIf_12 rfl 2 rfl ?_
    refine ea_iload_n (pc := 13) dX12_whatIf_13 rfl 3 rfl ?_
    refine ea_callV (pc := 14) (d' := d - 1) (As := [vI x1, vI x2, vI x3]) (st := []) dX12_whatIf_14 kX12_canBeLate (sX12_canBeLate (d := d - 1) (by omega) hs Ew1) (by omega) rfl (Nat.le_of_ble_eq_true rfl) ew_1805 ew_1807 ew_58 (ci := 12) rfl (by decide) (cShM_326 hs).1 (cShM_326 hs).2.1 ?_
    refine ea_if_ne (pc := 17) (tgt := 22) dX12_whatIf_17 rfl (fun c14 => ?_) (fun c14 => ?_)
    · have E := (if_neg c14).symm.trans E
      obtain ⟨w2, Ew2, E⟩ := bd_some E
      have hsw2 : ShM w2.2 := ShM_core ((kpX12_run _ _ _) _ Ew2) hsw1
      refine ea_aload_n (pc := 22) dX12_whatIf_22 rfl 0 rfl ?_
      refine ea_getR (pc := 23) dX12_whatIf_23 ec_12 (k := 8) (Nat.le_of_ble_eq_true rfl) rfl (Or.inl ew_1410) (cShM_326 hsw1).1 (cShM_326 hsw1).2.1 (rShM_326_8 hsw1) ?_
      refine ea_iload_n (pc := 26) dX12_whatIf_26 rfl 1 rfl ?_
      refine ea_iload_n (pc := 27) dX12_whatIf_27 rfl 2 rfl ?_
      refine ea_callS (pc := 28) (d' := d - 1) (As := [vI x1, vI x2]) (st := [vR (some 332)]) dX12_whatIf_28 kX12_run (sX12_run (d := d - 1) (by omega) Ew2) (by omega) rfl (Nat.le_of_ble_eq_true rfl) ew_1812 ew_1813 ?_
      obtain ⟨z3, E⟩ := gd_some E
      obtain ⟨v4, ev4, E⟩ := let_some E
      refine ea_iald (pc := 31) dX12_whatIf_31 (cShM_332 hsw2).1 (cShM_332 hsw2).2.1 (ea_vpl (cShM_332 hsw2).2.2 z3) ?_
      obtain ⟨w5, Ew5, E⟩ := bd_some E
      have hsw5 : ShM w5.2 := ShM_core ((kpX12_run _ _ _) _ Ew5) hsw2
      refine ea_istore (pc := 32) (lv' := [(0, vR (some 326)), (1, vI x1), (2, vI x2), (3, vI x3), (4, vI v4)]) dX12_whatIf_32 (Nat.le_of_ble_eq_true rfl) [1, 2, 3, 4, 0] (by rw [ev4]; rfl) ?_
      refine ea_aload_n (pc := 34) dX12_whatIf_34 rfl 0 rfl ?_
      refine ea_getR (pc := 35) dX12_whatIf_35 ec_12 (k := 8) (Nat.le_of_ble_eq_true rfl) rfl (Or.inl ew_1410) (cShM_326 hsw2).1 (cShM_326 hsw2).2.1 (rShM_326_8 hsw2) ?_
      refine ea_iload_n (pc := 38) dX12_whatIf_38 rfl 1 rfl ?_
      refine ea_iload_n (pc := 39) dX12_whatIf_39 rfl 2 rfl ?_
      refine ea_callS (pc := 40) (d' := d - 1) (As := [vI x1, vI x2]) (st := [vR (some 332)]) dX12_whatIf_40 kX12_run (sX12_run (d := d - 1) (by omega) Ew5) (by omega) rfl (Nat.le_of_ble_eq_true rfl) ew_1812 ew_1813 ?_
      obtain ⟨z6, E⟩ := gd_some E
      refine ea_iload_n (pc := 43) dX12_whatIf_43 rfl 3 rfl ?_
      obtain ⟨H7, eH7, E⟩ := let_some E
      refine ea_iast (pc := 44) dX12_whatIf_44 (cShM_332 hsw5).1 (cShM_332 hsw5).2.1 (ea_vpl (cShM_332 hsw5).2.2 z6) ?_
      refine ea_nm eH7 ?_
      have hsH7 : ShM H7 := by rw [eH7]; exact hsw5
      obtain ⟨H8, eH8, E⟩ := let_some E
      refine ea_aload_n (pc := 45) dX12_whatIf_45 rfl 0 rfl ?_
      refine ea_iconst (pc := 46) dX12_whatIf_46 (v := 0) rfl ?_
      refine ea_putI (pc := 47) dX12_whatIf_47 ec_12 (k := 12) (Nat.le_of_ble_eq_true rfl) rfl (Or.inl ⟨rfl, Or.inl ew_1414⟩) (ea_bn (Or.inl rfl)) (ea_bf (Or.inl rfl)) (cShM_326 hsH7).1 (cShM_326 hsH7).2.1 ?_
      refine ea_nm eH8 ?_
      have hsH8 : ShM H8 := by rw [eH8]; exact hsH7
      obtain ⟨w9, Ew9, E⟩ := bd_some E
      have hsw9 : ShM w9.2 := ShM_core ((kpX12_sums _) _ Ew9) hsH8
      refine ea_aload_n (pc := 50) dX12_whatIf_50 rfl 0 rfl ?_
      refine ea_callV (pc := 51) (d' := d - 1) (As := []) (st := []) dX12_whatIf_51 kX12_sums (sX12_sums (d := d - 1) (by omega) hsH8 Ew9) (by omega) rfl (Nat.le_of_ble_eq_true rfl) ew_2232 ew_2234 ew_111 (ci := 12) rfl (by decide) (cShM_326 hsH8).1 (cShM_326 hsH8).2.1 ?_
      obtain ⟨w10, Ew10, E⟩ := bd_some E
      have hsw10 : ShM w10.2 := ShM_core ((kpX12_run _ _ _) _ Ew10) hsw9
      refine ea_istore (pc := 54) (lv' := [(0, vR (some 326)), (1, vI x1), (2, vI x2), (4, vI v4), (5, vI w9.1)]) dX12_whatIf_54 (Nat.le_of_ble_eq_true rfl) [1, 2, 3, 5, 0] rfl ?_
      refine ea_aload_n (pc := 56) dX12_whatIf_56 rfl 0 rfl ?_
      refine ea_getR (pc := 57) dX12_whatIf_57 ec_12 (k := 8) (Nat.le_of_ble_eq_true rfl) rfl (Or.inl ew_1410) (cShM_326 hsw9).1 (cShM_326 hsw9).2.1 (rShM_326_8 hsw9) ?_
      refine ea_iload_n (pc := 60) dX12_whatIf_60 rfl 1 rfl ?_
      refine ea_iload_n (pc := 61) dX12_whatIf_61 rfl 2 rfl ?_
      refine ea_callS (pc := 62) (d' := d - 1) (As := [vI x1, vI x2]) (st := [vR (some 332)]) dX12_whatIf_62 kX12_run (sX12_run (d := d - 1) (by omega) Ew10) (by omega) rfl (Nat.le_of_ble_eq_true rfl) ew_1812 ew_1813 ?_
      obtain ⟨z11, E⟩ := gd_some E
      refine ea_iload (pc := 65) dX12_whatIf_65 3 rfl ?_
      obtain ⟨H12, eH12, E⟩ := let_some E
      refine ea_iast (pc := 67) dX12_whatIf_67 (cShM_332 hsw10).1 (cShM_332 hsw10).2.1 (ea_vpl (cShM_332 hsw10).2.2 z11) ?_
      refine ea_nm eH12 ?_
      have hsH12 : ShM H12 := by rw [eH12]; exact hsw10
      obtain ⟨H13, eH13, E⟩ := let_some E
      refine ea_aload_n (pc := 68) dX12_whatIf_68 rfl 0 rfl ?_
      refine ea_iconst (pc := 69) dX12_whatIf_69 (v := 0) rfl ?_
      refine ea_putI (pc := 70) dX12_whatIf_70 ec_12 (k := 12) (Nat.le_of_ble_eq_true rfl) rfl (Or.inl ⟨rfl, Or.inl ew_1414⟩) (ea_bn (Or.inl rfl)) (ea_bf (Or.inl rfl)) (cShM_326 hsH12).1 (cShM_326 hsH12).2.1 ?_
      refine ea_nm eH13 ?_
      have hsH13 : ShM H13 := by rw [eH13]; exact hsH12
      refine ea_iload (pc := 73) dX12_whatIf_73 4 rfl ?_
      exact ea_iretO (pc := 75) dX12_whatIf_75 rfl rfl E
    · have E := (if_pos c14).symm.trans E
      refine ea_iconst (pc := 20) dX12_whatIf_20 (v := (-1)) rfl ?_
      exact ea_iretO (pc := 21) dX12_whatIf_21 rfl rfl E
  · have E := (if_pos c16).symm.trans E
    obtain ⟨w15, Ew15, E⟩ := bd_some E
    have hsw15 : ShM w15.2 := ShM_core ((kpX12_sums _) _ Ew15) hs
    refine ea_aload_n (pc := 5) dX12_whatIf_5 rfl 0 rfl ?_
    refine ea_callV (pc := 6) (d' := d - 1) (As := []) (st := []) dX12_whatIf_6 kX12_sums (sX12_sums (d := d - 1) (by omega) hs Ew15) (by omega) rfl (Nat.le_of_ble_eq_true rfl) ew_2232 ew_2234 ew_111 (ci := 12) rfl (by decide) (cShM_326 hs).1 (cShM_326 hs).2.1 ?_
    exact ea_iretO (pc := 9) dX12_whatIf_9 rfl rfl E
theorem kBX12_whatIf_0  {x1 : Int32} {x2 : Int32} {x3 : Int32} {h : ea_H} : kp (ea_core h) (BX12_whatIf_0 x1 x2 x3 h) :=
  (kp_ite (kp_bind (kp_tw (kpX12_sums _) rfl) fun w15 hcw15 => (kp_ret hcw15)) (kp_bind (kp_tw (kpX12_canBeLate _ _ _ _) rfl) fun w1 hcw1 => (kp_ite (kp_ret hcw1) (kp_bind (kp_tw (kpX12_run _ _ _) hcw1) fun w2 hcw2 => (kp_gd (kp_let (kp_bind (kp_tw (kpX12_run _ _ _) hcw2) fun w5 hcw5 => (kp_gd (kp_let (kp_let (kp_bind (kp_tw (kpX12_sums _) hcw5) fun w9 hcw9 => (kp_bind (kp_tw (kpX12_run _ _ _) hcw9) fun w10 hcw10 => (kp_gd (kp_let (kp_let (kp_ret hcw10))))))))))))))))
noncomputable def qX12_whatIf (x1 : Int32) (x2 : Int32) (x3 : Int32) (h : ea_H) : Option (Int32 × ea_H) := BX12_whatIf_0 x1 x2 x3 h
theorem sX12_whatIf {d : Nat} {x1 : Int32} {x2 : Int32} {x3 : Int32} {h : ea_H} {r : Int32} {h' : ea_H} (hd : 9 ≤ d) (hs : ShM h) (K : qX12_whatIf x1 x2 x3 h = some (r, h')) : ea_Met mX12_whatIf d [vR (some 326), vI x1, vI x2, vI x3] h (some (vI r)) h' := by
  unfold qX12_whatIf at K
  have W := tBX12_whatIf_0 hd (h0 := h) K hs
  exact ea_enter rfl (Nat.le_of_ble_eq_true rfl) W
theorem kpX12_whatIf (x1 : Int32) (x2 : Int32) (x3 : Int32) (h : ea_H) : kp (ea_core h) (qX12_whatIf x1 x2 x3 h) := kBX12_whatIf_0
