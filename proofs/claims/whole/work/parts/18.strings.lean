/-! the engine, 18: String.length and String.charAt of the constants -/
theorem ea_callVS {M : ea_M} {d : Nat} {h0 hE h : ea_H} {rv : Option ea_V} {pc : Nat} {lv : List (Nat × ea_V)} {st : List ea_V} {M' : ea_M} {d' n idx k : Nat} {As : List ea_V} {rv' : Option ea_V} {h' : ea_H} (hd : decode M.2.1 pc = .ok (.invokevirtual idx, 3)) (hk : k < 18) (hMK : ea_MK M' n) (hM : ea_Met M' d' (vO (1 + k) :: As) h rv' h') (hdd : d' + 1 ≤ d) (hn : As.length = n) (hcat : ea_cats st ≤ 8) (hlk : Cond.methodLink M.1.cls idx M'.1 ∈ ea_tbl) (hin : Cond.instanceMethod M'.1 ∈ ea_tbl) (hse : Cond.selects M'.1.cls M'.1 M'.1 ∈ ea_tbl) (hcl : M'.1.cls = "java/lang/String") (kk : ea_W M d h0 rv hE (pc + 3) lv (rv'.toList ++ st) h') : ea_W M d h0 rv hE pc lv (As.reverse ++ vO (1 + k) :: st) h := by
  refine ⟨Nat.le_trans hM.1 kk.1, Nat.le_trans hM.2.1 kk.2.1, kk.2.2.1.trans hM.2.2.1, fun p l e s m args below meth c w H locs ls hC hA hK hX h1 h2 h3 hP hS hl hq => ?_⟩
  have hMl := hM.2.2.2 l w H.size
  have hpre := fun U hU hW => ea_pre (h := h) (p := p) (l := l) (e := e) (vs := vO (1 + k) :: As) hA hK hX hq h1 h3 hP hS U hU hW
  have hlen : (As.map (ea_v w.2.2.1 w.2.2.2)).length = n := by simpa using hn
  have hroom := lv_room (pc := pc) (ls := ls) (m := m) (rest := ea_st w.2.2.1 w.2.2.2 (As.reverse ++ vO (1 + k) :: st)) (st := ea_st w.2.2.1 w.2.2.2 st) (by rw [ea_cats_eq]; exact hcat)
  have hfit : ea_n h - ea_n h0 + (ea_n h' - ea_n h) ≤ ea_n hE - ea_n h0 ∧ ea_s h - ea_s h0 + (ea_s h' - ea_s h) ≤ ea_s hE - ea_s h0 := by
    have a1 := kk.1
    have a2 := kk.2.1
    have a3 := hM.1
    have a4 := hM.2.1
    omega
  have hts := hC.1.2.2.2.2
  have hG : GoodIn ea_tbl (Cond.code M'.1 M'.2.1 M'.2.2.1 M'.2.2.2 :: ea_tbl) := fun x hx => ea_goodIn x (by rcases List.mem_cons.mp hx with rfl | hx; exact hMK.2.1; exact hx)
  have hrecv := vk_recv hX.2.2.2.1 hk hS
  rw [← hcl] at hrecv
  have hstk : ea_st w.2.2.1 w.2.2.2 (As.reverse ++ vO (1 + k) :: st) = (As.map (ea_v w.2.2.1 w.2.2.2)).reverse ++ .ref (w.2.2.2 (1 + k)) :: ea_st w.2.2.1 w.2.2.2 st := by
    unfold ea_st
    rw [List.map_append, List.map_reverse]
    rfl
  rw [hstk]
  refine ea_back hC hA hK hX hq h1 h2 h3 hS hl hM.1 hM.2.1 hM.2.2.1 (va_runV (b := w.2.2.2 (1 + k)) (As := As.map (ea_v w.2.2.1 w.2.2.2)) hC.1 hMl ⟨callB_of n hts hG rfl rfl rfl (hts _ hMK.2.2.1) (hts _ hlk) ⟨hMK.2.2.2.1.1, hMK.2.2.2.1.2, hMK.2.2.2.2⟩ ⟨Nat.le_trans hdd (Nat.le_refl _), by have := hMK.1; show 8 + (M'.2.2.1 + 11) + 64 * d' ≤ 64 * d; omega⟩, hts _ hin, hts _ hse⟩ ⟨ea_blind, hrecv, hpre⟩ rfl hlen hl.1 rfl hroom hd hfit) kk
theorem ss_len : ∀ k, k < 18 → (Int32.ofNat (ea_sL.getD k 0)) >>> ((0 : Int32) &&& 31) = Int32.ofNat (ea_sL.getD k 0) := by decide +kernel
theorem ss_ch : ∀ k, k < 18 → ∀ j, j < ea_sL.getD k 0 → (((((ea_sB.getD k []).getD j 0) &&& 255).toUInt32 % 65536).toInt32 = (ea_sB.getD k []).getD j 0 ∧ (((ea_sB.getD k []).getD j 0).toUInt32 % 65536).toInt32 = (ea_sB.getD k []).getD j 0) := by decide +kernel
theorem ss_small : ∀ k, k < 18 → ea_sL.getD k 0 < 2147483648 := by decide +kernel
theorem ss_nar (x : Int32) : narrow .char (.int x) = .int (x.toUInt32 % 65536).toInt32 := rfl
theorem ss_nonneg {x : Int32} {n : Nat} (hn : n < 2147483648) (h : vp_in x n) : ¬ x < 0 ∧ x < Int32.ofNat n ∧ x.toNatClampNeg < n := by
  have h1 : ¬ x < 0 := fun q => h (Or.inl q)
  have h2 : x.toNatClampNeg < n := Nat.not_le.mp fun q => h (Or.inr q)
  refine ⟨h1, ?_, h2⟩
  have h3 : (0 : Int) ≤ x.toInt := by
    have := Int32.not_lt.mp h1
    simpa using Int32.le_iff_toInt_le.mp this
  have h4 : x.toNatClampNeg = x.toInt.toNat := rfl
  rw [Int32.lt_iff_toInt_lt, Int32.toInt_ofNat_of_lt (by omega)]
  omega
noncomputable def qS_length (k : Nat) (h : ea_H) : Option (Int32 × ea_H) := some (Int32.ofNat (ea_sL.getD k 0), h)
noncomputable def qS_charAt (k : Nat) (x : Int32) (h : ea_H) : Option (Int32 × ea_H) := gd (vp_in x (ea_sL.getD k 0)) (some ((ea_sB.getD k []).getD (Int32.toNatClampNeg x) 0, h))
theorem kpS_length (k : Nat) (h : ea_H) : kp (ea_core h) (qS_length k h) := kp_ret rfl
theorem kpS_charAt (k : Nat) (x : Int32) (h : ea_H) : kp (ea_core h) (qS_charAt k x h) := kp_gd (kp_ret rfl)
theorem ss_coder {d k : Nat} {h : ea_H} (hk : k < 18) (hd : 1 ≤ d) : ea_Met mJ0_coder_7d493 d [vO (1 + k)] h (some (vI 0)) h := by
  refine ea_enter rfl (Nat.le_of_ble_eq_true rfl) ?_
  refine ea_getsC (pc := 0) dJ0_coder_7d493_0 ew_1907 ?_
  refine ea_if_eq (pc := 3) (tgt := 13) dJ0_coder_7d493_3 rfl (fun c => absurd c (by decide)) (fun _ => ?_)
  refine ea_aload_nO (pc := 6) dJ0_coder_7d493_6 rfl 0 rfl ?_
  refine ea_fcod (pc := 7) hk dJ0_coder_7d493_7 ew_2249 ?_
  refine ea_goto (pc := 10) (tgt := 14) dJ0_coder_7d493_10 rfl ?_
  exact ea_ireturn (pc := 14) dJ0_coder_7d493_14 rfl rfl
theorem sS_length {d k : Nat} {h : ea_H} {r : Int32} {h' : ea_H} (hd : 5 ≤ d) (hk : k < 18) (K : qS_length k h = some (r, h')) : ea_Met mJ0_length_8abf5 d [vO (1 + k)] h (some (vI r)) h' := by
  cases K
  refine ea_enter rfl (Nat.le_of_ble_eq_true rfl) ?_
  refine ea_aload_nO (pc := 0) dJ0_length_8abf5_0 rfl 0 rfl ?_
  refine ea_fval (pc := 1) hk dJ0_length_8abf5_1 ew_2248 ?_
  refine ea_blen (pc := 4) hk dJ0_length_8abf5_4 ?_
  refine ea_aload_nO (pc := 5) dJ0_length_8abf5_5 rfl 0 rfl ?_
  refine ea_callVS (pc := 6) (d' := d - 1) (As := []) (st := [vI (Int32.ofNat (ea_sL.getD k 0))]) dJ0_length_8abf5_6 hk kJ0_coder_7d493 (ss_coder hk (by omega)) (by omega) rfl (Nat.le_of_ble_eq_true rfl) ew_1903 ew_1904 ew_1905 rfl ?_
  refine ea_ishr (pc := 9) dJ0_length_8abf5_9 ?_
  rw [ss_len k hk]
  exact ea_ireturn (pc := 10) dJ0_length_8abf5_10 rfl rfl
theorem ss_isLatin1 {d k : Nat} {h : ea_H} (hk : k < 18) (hd : 1 ≤ d) : ea_Met mJ0_isLatin1_aae02 d [vO (1 + k)] h (some (vI 1)) h := by
  refine ea_enter rfl (Nat.le_of_ble_eq_true rfl) ?_
  refine ea_getsC (pc := 0) dJ0_isLatin1_aae02_0 ew_1907 ?_
  refine ea_if_eq (pc := 3) (tgt := 17) dJ0_isLatin1_aae02_3 rfl (fun c => absurd c (by decide)) (fun _ => ?_)
  refine ea_aload_nO (pc := 6) dJ0_isLatin1_aae02_6 rfl 0 rfl ?_
  refine ea_fcod (pc := 7) hk dJ0_isLatin1_aae02_7 ew_2249 ?_
  refine ea_if_ne (pc := 10) (tgt := 17) dJ0_isLatin1_aae02_10 rfl (fun c => absurd rfl c) (fun _ => ?_)
  refine ea_iconst (pc := 13) dJ0_isLatin1_aae02_13 (v := 1) rfl ?_
  refine ea_goto (pc := 14) (tgt := 18) dJ0_isLatin1_aae02_14 rfl ?_
  exact ea_ireturn (pc := 18) dJ0_isLatin1_aae02_18 rfl rfl
theorem ss_pre_n {d : Nat} {h : ea_H} {x y : Int32} (h1 : ¬ x < 0) (h2 : x < y) : ea_Met mJ3_checkIndex_8e157 d [vI x, vI y, vR none] h (some (vI x)) h := by
  refine ea_enter rfl (Nat.le_of_ble_eq_true rfl) ?_
  refine ea_iload_n (pc := 0) dJ3_checkIndex_8e157_0 rfl 0 rfl ?_
  refine ea_if_lt (pc := 1) (tgt := 9) dJ3_checkIndex_8e157_1 rfl (fun c => absurd c h1) (fun _ => ?_)
  refine ea_iload_n (pc := 4) dJ3_checkIndex_8e157_4 rfl 0 rfl ?_
  refine ea_iload_n (pc := 5) dJ3_checkIndex_8e157_5 rfl 1 rfl ?_
  refine ea_icmp_lt (pc := 6) (tgt := 16) dJ3_checkIndex_8e157_6 rfl (fun _ => ?_) (fun c => absurd h2 c)
  refine ea_iload_n (pc := 16) dJ3_checkIndex_8e157_16 rfl 0 rfl ?_
  exact ea_ireturn (pc := 17) dJ3_checkIndex_8e157_17 rfl rfl
theorem ss_pre_o {d : Nat} {h : ea_H} {x y : Int32} (h1 : ¬ x < 0) (h2 : x < y) : ea_Met mJ3_checkIndex_8e157 d [vI x, vI y, vO 38] h (some (vI x)) h := by
  refine ea_enter rfl (Nat.le_of_ble_eq_true rfl) ?_
  refine ea_iload_n (pc := 0) dJ3_checkIndex_8e157_0 rfl 0 rfl ?_
  refine ea_if_lt (pc := 1) (tgt := 9) dJ3_checkIndex_8e157_1 rfl (fun c => absurd c h1) (fun _ => ?_)
  refine ea_iload_n (pc := 4) dJ3_checkIndex_8e157_4 rfl 0 rfl ?_
  refine ea_iload_n (pc := 5) dJ3_checkIndex_8e157_5 rfl 1 rfl ?_
  refine ea_icmp_lt (pc := 6) (tgt := 16) dJ3_checkIndex_8e157_6 rfl (fun _ => ?_) (fun c => absurd h2 c)
  refine ea_iload_n (pc := 16) dJ3_checkIndex_8e157_16 rfl 0 rfl ?_
  exact ea_ireturn (pc := 17) dJ3_checkIndex_8e157_17 rfl rfl
theorem ss_check {d : Nat} {h : ea_H} {x y : Int32} (hd : 2 ≤ d) (h1 : ¬ x < 0) (h2 : x < y) : ea_Met mJ0_checkIndex_df160 d [vI x, vI y] h none h := by
  refine ea_enter rfl (Nat.le_of_ble_eq_true rfl) ?_
  refine ea_iload_n (pc := 0) dJ0_checkIndex_df160_0 rfl 0 rfl ?_
  refine ea_iload_n (pc := 1) dJ0_checkIndex_df160_1 rfl 1 rfl ?_
  refine ea_getsQ (pc := 2) dJ0_checkIndex_df160_2 ew_1923 (fun _ _ _ => rfl) (fun _ _ _ => rfl) (fun _ _ _ => rfl) ?_ ?_
  · refine ea_callS (pc := 5) (d' := d - 1) (As := [vI x, vI y, vR none]) (st := []) dJ0_checkIndex_df160_5 kJ3_checkIndex_8e157 (ss_pre_n h1 h2) (by omega) rfl (Nat.le_of_ble_eq_true rfl) ew_1925 ew_1926 ?_
    refine ea_pop (pc := 8) dJ0_checkIndex_df160_8 rfl ?_
    exact ea_return (pc := 9) dJ0_checkIndex_df160_9 rfl
  · refine ea_callS (pc := 5) (d' := d - 1) (As := [vI x, vI y, vO 38]) (st := []) dJ0_checkIndex_df160_5 kJ3_checkIndex_8e157 (ss_pre_o h1 h2) (by omega) rfl (Nat.le_of_ble_eq_true rfl) ew_1925 ew_1926 ?_
    refine ea_pop (pc := 8) dJ0_checkIndex_df160_8 rfl ?_
    exact ea_return (pc := 9) dJ0_checkIndex_df160_9 rfl
theorem ss_latin {d k : Nat} {h : ea_H} {x : Int32} (hd : 3 ≤ d) (hk : k < 18) (hin : vp_in x (ea_sL.getD k 0)) : ea_Met mJ1_charAt_3b067 d [vO (19 + k), vI x] h (some (vI ((ea_sB.getD k []).getD (Int32.toNatClampNeg x) 0))) h := by
  obtain ⟨h1, h2, h3⟩ := ss_nonneg (ss_small k hk) hin
  obtain ⟨c1, c2⟩ := ss_ch k hk _ h3
  refine ea_enter rfl (Nat.le_of_ble_eq_true rfl) ?_
  refine ea_iload_n (pc := 0) dJ1_charAt_3b067_0 rfl 1 rfl ?_
  refine ea_aload_nO (pc := 1) dJ1_charAt_3b067_1 rfl 0 rfl ?_
  refine ea_blen (pc := 2) hk dJ1_charAt_3b067_2 ?_
  refine ea_callS (pc := 3) (d' := d - 1) (As := [vI x, vI (Int32.ofNat (ea_sL.getD k 0))]) (st := []) dJ1_charAt_3b067_3 kJ0_checkIndex_df160 (ss_check (by omega) h1 h2) (by omega) rfl (Nat.le_of_ble_eq_true rfl) ew_1920 ew_1921 ?_
  refine ea_aload_nO (pc := 6) dJ1_charAt_3b067_6 rfl 0 rfl ?_
  refine ea_iload_n (pc := 7) dJ1_charAt_3b067_7 rfl 1 rfl ?_
  refine ea_bld (pc := 8) hk dJ1_charAt_3b067_8 hin ?_
  refine ea_sipush (pc := 9) dJ1_charAt_3b067_9 (v := 255) rfl ?_
  refine ea_iand (pc := 12) dJ1_charAt_3b067_12 ?_
  refine ea_i2c (pc := 13) dJ1_charAt_3b067_13 ?_
  rw [c1]
  exact ea_ireturn (pc := 14) dJ1_charAt_3b067_14 rfl (by rw [ss_nar, c2])
theorem sS_charAt {d k : Nat} {x : Int32} {h : ea_H} {r : Int32} {h' : ea_H} (hd : 5 ≤ d) (hk : k < 18) (K : qS_charAt k x h = some (r, h')) : ea_Met mJ0_charAt_5068e d [vO (1 + k), vI x] h (some (vI r)) h' := by
  obtain ⟨hin, K⟩ := gd_some K
  cases K
  obtain ⟨h1, h2, h3⟩ := ss_nonneg (ss_small k hk) hin
  obtain ⟨c1, c2⟩ := ss_ch k hk _ h3
  refine ea_enter rfl (Nat.le_of_ble_eq_true rfl) ?_
  refine ea_aload_nO (pc := 0) dJ0_charAt_5068e_0 rfl 0 rfl ?_
  refine ea_callVS (pc := 1) (d' := d - 1) (As := []) (st := []) dJ0_charAt_5068e_1 hk kJ0_isLatin1_aae02 (ss_isLatin1 hk (by omega)) (by omega) rfl (Nat.le_of_ble_eq_true rfl) ew_1913 ew_1914 ew_1915 rfl ?_
  refine ea_if_eq (pc := 4) (tgt := 16) dJ0_charAt_5068e_4 rfl (fun c => absurd c (by decide)) (fun _ => ?_)
  refine ea_aload_nO (pc := 7) dJ0_charAt_5068e_7 rfl 0 rfl ?_
  refine ea_fval (pc := 8) hk dJ0_charAt_5068e_8 ew_2248 ?_
  refine ea_iload_n (pc := 11) dJ0_charAt_5068e_11 rfl 1 rfl ?_
  refine ea_callS (pc := 12) (d' := d - 1) (As := [vO (19 + k), vI x]) (st := []) dJ0_charAt_5068e_12 kJ1_charAt_3b067 (ss_latin (by omega) hk hin) (by omega) rfl (Nat.le_of_ble_eq_true rfl) ew_1917 ew_1918 ?_
  exact ea_ireturn (pc := 15) dJ0_charAt_5068e_15 rfl (by rw [ss_nar, c2])
