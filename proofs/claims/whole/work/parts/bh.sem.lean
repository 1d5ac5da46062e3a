/-! the law's start, on the machine -/
theorem nw_1 : Cond.classLink RL 7 RX11 ∈ ea_tbl := ea_in (et_1 (List.mem_of_getElem? (i := 21) (by decide +kernel))) rfl
theorem nw_2 : Cond.instantiable RX11 19 ∈ ea_tbl := ea_in (et_1 (List.mem_of_getElem? (i := 22) (by decide +kernel))) rfl
theorem nw_3 : Cond.methodLink RL 9 yX11_init ∈ ea_tbl := ea_in (et_1 (List.mem_of_getElem? (i := 23) (by decide +kernel))) rfl
theorem nw_4 : Cond.instanceMethod yX11_init ∈ ea_tbl := ea_in (et_1 (List.mem_of_getElem? (i := 24) (by decide +kernel))) rfl
theorem nw_5 : Cond.classLink RL 10 RX12 ∈ ea_tbl := ea_in (et_6 (List.mem_of_getElem? (i := 81) (by decide +kernel))) rfl
theorem nw_6 : Cond.instantiable RX12 118 ∈ ea_tbl := ea_in (et_6 (List.mem_of_getElem? (i := 82) (by decide +kernel))) rfl
theorem nw_7 : Cond.methodLink RL 12 yX12_init ∈ ea_tbl := ea_in (et_6 (List.mem_of_getElem? (i := 83) (by decide +kernel))) rfl
theorem nw_8 : Cond.instanceMethod yX12_init ∈ ea_tbl := ea_in (et_6 (List.mem_of_getElem? (i := 84) (by decide +kernel))) rfl
def ea_h0 (L : Nat) (xs : Nat → Int32) : ea_H := (((0, 0), L, xs), fun _ => 0, fun _ => 0, fun _ _ => 0, fun _ _ => 0, fun _ _ => none)
theorem law_W {d : Nat} {h0 hE h4 h10 : ea_H} (hd : 98 ≤ d) (n0 : ea_n h0 = 0) (n4 : ea_n h4 = 326) (q11 : qX11_init 0 (ea_new h0 11 0 19) = some ((), h4)) (q12 : qX12_init 326 (ea_new h4 12 0 118) = some ((), h10)) (W : ea_W mL_law d h0 (some (vI 1)) hE 18 [(0, vO 0), (1, vR (some 0)), (2, vR (some 326)), (3, vI 0)] [] h10) : ea_W mL_law d h0 (some (vI 1)) hE 0 [(0, vO 0)] [] h0 := by
  obtain ⟨H1, e1⟩ : ∃ z, z = ea_new h0 11 0 19 := ⟨_, rfl⟩
  rw [← e1] at q11
  obtain ⟨H7, e7⟩ : ∃ z, z = ea_new h4 12 0 118 := ⟨_, rfl⟩
  rw [← e7] at q12
  rw [← n0] at q11
  rw [← n4] at q12 W
  refine ea_newO (pc := 0) dL_law_0 ec_11 nw_1 nw_2 ew_115 ?_
  refine ea_nm e1 ?_
  refine ea_dup (pc := 3) dL_law_3 rfl ?_
  refine ea_callI (pc := 4) (d' := d - 1) (As := []) (st := [vR (some (ea_n h0))]) dL_law_4 kX11_init (sX11_init (d := d - 1) (by omega) q11) (by omega) rfl (Nat.le_of_ble_eq_true rfl) nw_3 nw_4 rfl rfl ?_
  refine ea_astore_n (pc := 7) (lv' := [(0, vO 0), (1, vR (some (ea_n h0)))]) dL_law_7 rfl (Nat.le_of_ble_eq_true rfl) [1, 0] rfl ?_
  refine ea_newO (pc := 8) dL_law_8 ec_12 nw_5 nw_6 ew_130 ?_
  refine ea_nm e7 ?_
  refine ea_dup (pc := 11) dL_law_11 rfl ?_
  refine ea_callI (pc := 12) (d' := d - 1) (As := []) (st := [vR (some (ea_n h4))]) dL_law_12 kX12_init (sX12_init (d := d - 1) (by omega) q12) (by omega) rfl (Nat.le_of_ble_eq_true rfl) nw_7 nw_8 rfl rfl ?_
  refine ea_astore_n (pc := 15) (lv' := [(0, vO 0), (1, vR (some (ea_n h0))), (2, vR (some (ea_n h4)))]) dL_law_15 rfl (Nat.le_of_ble_eq_true rfl) [1, 2, 0] rfl ?_
  refine ea_iconst (pc := 16) dL_law_16 (v := 0) rfl ?_
  refine ea_istore_n (pc := 17) (lv' := [(0, vO 0), (1, vR (some (ea_n h0))), (2, vR (some (ea_n h4))), (3, vI 0)]) dL_law_17 rfl (Nat.le_of_ble_eq_true rfl) [1, 2, 3, 0] rfl ?_
  rw [n0]
  exact W
theorem law_run (L : Nat) (xs : Nat → Int32) (hL : L ≤ 3584) : ∃ hE : ea_H, ea_n hE ≤ 600000 ∧ ea_s hE ≤ 7302250 ∧ ea_W mL_law 1312 (ea_h0 L xs) (some (vI 1)) hE 0 [(0, vO 0)] [] (ea_h0 L xs) := by
  have p0 : Pre 0 [] (ea_h0 L xs) := ⟨rfl, fun b hb => absurd hb (Nat.not_lt_zero b), fun d hd => absurd hd List.not_mem_nil, fun q _ hd => absurd hd List.not_mem_nil, rfl⟩
  have p1 : Pre 1 [] (ea_new (ea_h0 L xs) 11 0 19) := p0.new 19 rfl rfl
  have z0 : 0 = ea_n (ea_h0 L xs) := rfl
  obtain ⟨y1, e1, i1⟩ := c_init p1 fun k => by
    rw [new_I, new_J, if_pos z0, if_pos z0]
    exact ⟨rfl, rfl⟩
  obtain ⟨y2, e2, f2, n2, s2⟩ := both_init i1.1 i1
  have q1 : ea_q y1.2 = ea_q (ea_new (ea_h0 L xs) 11 0 19) := (sX11_init (d := 4) (r := y1.1) (h' := y1.2) (by decide) e1).2.2.1
  have q2 : ea_q y2.2 = ea_q (ea_new y1.2 12 0 118) := (sX12_init (d := 4) (r := y2.1) (h' := y2.2) (by decide) e2).2.2.1
  have eq : ea_q y2.2 = (L, xs) := q2.trans q1
  obtain ⟨y3, e3, v3⟩ := law_all (q := (L, xs)) (show L ≤ 2147483647 by omega) eq f2.sim
  obtain ⟨n, hn⟩ := fqL_law_18 0 y2.2 _ e3
  have g3 := hn n (Nat.le_refl _)
  have core : ea_core y3.2 = ea_core y2.2 := (kgL_law n 0 y2.2) y3 g3
  have W := tgL_law (d := 1312) (h0 := ea_h0 L xs) (by decide) n 0 y2.2 y3.1 y3.2 g3 ⟨f2.1, f2.2.1⟩
  rw [v3] at W
  refine ⟨y3.2, ?_, ?_, law_W (by decide) rfl i1.1.1 e1 e2 W⟩
  · have : ea_n y3.2 = ea_n y2.2 := congrArg (fun c => c.1.1.1) core
    omega
  · have : ea_s y3.2 = ea_s y2.2 := congrArg (fun c => c.1.1.2) core
    omega
