/-! the class, 3 -/
theorem zX10_trace {b0 : Nat} : ∀ (f lbl : Nat) (x1 : Int32) (h : ea_H) (r : Unit) (h' : ea_H), gX10_trace b0 f lbl x1 h = some (r, h') → ShC b0 h → ShC b0 h' := by
  intro f
  induction f with
  | zero => intro lbl x1 h r h' E; cases E
  | succ f ih =>
    intro lbl x1 h r h' E hs
    unfold gX10_trace at E
    by_cases el0 : lbl = 0
    · have E := (if_pos el0).symm.trans E
      obtain ⟨z1, E⟩ := gd_some E
      obtain ⟨H3, eH3, E⟩ := let_some E
      have hsH3 : ShC b0 H3 := by rw [eH3]; exact (shJ7_fill_d0a16 hs)
      obtain ⟨z4, E⟩ := gd_some E
      obtain ⟨H6, eH6, E⟩ := let_some E
      have hsH6 : ShC b0 H6 := by rw [eH6]; exact (shJ7_fill_53178 hsH3)
      exact ih 25 (((ea_i H6 (b0 + 13) 1) - (1 : Int32)) : Int32) H6 _ _ E hsH6
    have E := (if_neg el0).symm.trans E
    by_cases el1 : lbl = 25
    · have E := (if_pos el1).symm.trans E
      by_cases c22 : x1 < (0 : Int32)
      · have E := (if_pos c22).symm.trans E
        exact ea_shO E hs
      have E := (if_neg c22).symm.trans E
      obtain ⟨e7, E⟩ := gd_some E
      obtain ⟨f8, E⟩ := gd_some E
      obtain ⟨z9, E⟩ := gd_some E
      by_cases c21 : (vX10_isGoing ((ea_i h (Option.getD (ea_r h (b0 + 13) 3) 0) (Int32.toNatClampNeg x1)) : Int32) h) = (0 : Int32)
      · have E := (if_pos c21).symm.trans E
        obtain ⟨z12, E⟩ := gd_some E
        obtain ⟨z13, E⟩ := gd_some E
        obtain ⟨H15, eH15, E⟩ := let_some E
        have hsH15 : ShC b0 H15 := by rw [eH15]; exact (shX10_leaveRun hs)
        exact ih 25 ((x1 + ((-1) : Int32)) : Int32) H15 _ _ E hsH15
      have E := (if_neg c21).symm.trans E
      obtain ⟨z17, E⟩ := gd_some E
      obtain ⟨z18, E⟩ := gd_some E
      obtain ⟨H20, eH20, E⟩ := let_some E
      have hsH20 : ShC b0 H20 := by rw [eH20]; exact (shX10_takeRun hs)
      exact ih 25 ((x1 + ((-1) : Int32)) : Int32) H20 _ _ E hsH20
    have E := (if_neg el1).symm.trans E
    cases E
theorem shX10_trace {b0 : Nat} {h : ea_H} (hs : ShC b0 h) : ShC b0 (wX10_trace b0 h) := by
  unfold wX10_trace
  cases K : qX10_trace b0 h with
  | none => exact hs
  | some x => obtain ⟨x, y⟩ := x; unfold qX10_trace at K; exact zX10_trace _ _ _ _ _ _ K hs
noncomputable def wX10_refresh (b0 : Nat) (h : ea_H) : ea_H := (if (ea_i h (b0 + 13) 0) = (0 : Int32) then (if (ea_r h (b0 + 13) 3) = none then (ea_wi (wX10_trace b0 (wX10_linkMinutes b0 (wX10_sortKeys b0 (wX10_collect b0 (ea_wr (ea_new (ea_wr (ea_new (ea_wr (ea_new (ea_wr (ea_new h 20 1120 1120) (b0 + 13) 3 (some (ea_n h))) 22 6720 6720) (b0 + 13) 4 (some (ea_n (ea_wr (ea_new h 20 1120 1120) (b0 + 13) 3 (some (ea_n h)))))) 22 840 840) (b0 + 13) 5 (some (ea_n (ea_wr (ea_new (ea_wr (ea_new h 20 1120 1120) (b0 + 13) 3 (some (ea_n h))) 22 6720 6720) (b0 + 13) 4 (some (ea_n (ea_wr (ea_new h 20 1120 1120) (b0 + 13) 3 (some (ea_n h))))))))) 20 560 560) (b0 + 13) 6 (some (ea_n (ea_wr (ea_new (ea_wr (ea_new (ea_wr (ea_new h 20 1120 1120) (b0 + 13) 3 (some (ea_n h))) 22 6720 6720) (b0 + 13) 4 (some (ea_n (ea_wr (ea_new h 20 1120 1120) (b0 + 13) 3 (some (ea_n h)))))) 22 840 840) (b0 + 13) 5 (some (ea_n (ea_wr (ea_new (ea_wr (ea_new h 20 1120 1120) (b0 + 13) 3 (some (ea_n h))) 22 6720 6720) (b0 + 13) 4 (some (ea_n (ea_wr (ea_new h 20 1120 1120) (b0 + 13) 3 (some (ea_n h)))))))))))))))) (b0 + 13) 0 1) else (ea_wi (wX10_trace b0 (wX10_linkMinutes b0 (wX10_sortKeys b0 (wX10_collect b0 h)))) (b0 + 13) 0 1)) else h)
def okX10_refresh (b0 : Nat) (h : ea_H) : Prop := ((ea_i h (b0 + 13) 0) = (0 : Int32) → ((ea_r h (b0 + 13) 3) = none → (okX10_collect b0 (ea_wr (ea_new (ea_wr (ea_new (ea_wr (ea_new (ea_wr (ea_new h 20 1120 1120) (b0 + 13) 3 (some (ea_n h))) 22 6720 6720) (b0 + 13) 4 (some (ea_n (ea_wr (ea_new h 20 1120 1120) (b0 + 13) 3 (some (ea_n h)))))) 22 840 840) (b0 + 13) 5 (some (ea_n (ea_wr (ea_new (ea_wr (ea_new h 20 1120 1120) (b0 + 13) 3 (some (ea_n h))) 22 6720 6720) (b0 + 13) 4 (some (ea_n (ea_wr (ea_new h 20 1120 1120) (b0 + 13) 3 (some (ea_n h))))))))) 20 560 560) (b0 + 13) 6 (some (ea_n (ea_wr (ea_new (ea_wr (ea_new (ea_wr (ea_new h 20 1120 1120) (b0 + 13) 3 (some (ea_n h))) 22 6720 6720) (b0 + 13) 4 (some (ea_n (ea_wr (ea_new h 20 1120 1120) (b0 + 13) 3 (some (ea_n h)))))) 22 840 840) (b0 + 13) 5 (some (ea_n (ea_wr (ea_new (ea_wr (ea_new h 20 1120 1120) (b0 + 13) 3 (some (ea_n h))) 22 6720 6720) (b0 + 13) 4 (some (ea_n (ea_wr (ea_new h 20 1120 1120) (b0 + 13) 3 (some (ea_n h))))))))))))) ∧ ((okX10_sortKeys b0 (wX10_collect b0 (ea_wr (ea_new (ea_wr (ea_new (ea_wr (ea_new (ea_wr (ea_new h 20 1120 1120) (b0 + 13) 3 (some (ea_n h))) 22 6720 6720) (b0 + 13) 4 (some (ea_n (ea_wr (ea_new h 20 1120 1120) (b0 + 13) 3 (some (ea_n h)))))) 22 840 840) (b0 + 13) 5 (some (ea_n (ea_wr (ea_new (ea_wr (ea_new h 20 1120 1120) (b0 + 13) 3 (some (ea_n h))) 22 6720 6720) (b0 + 13) 4 (some (ea_n (ea_wr (ea_new h 20 1120 1120) (b0 + 13) 3 (some (ea_n h))))))))) 20 560 560) (b0 + 13) 6 (some (ea_n (ea_wr (ea_new (ea_wr (ea_new (ea_wr (ea_new h 20 1120 1120) (b0 + 13) 3 (some (ea_n h))) 22 6720 6720) (b0 + 13) 4 (some (ea_n (ea_wr (ea_new h 20 1120 1120) (b0 + 13) 3 (some (ea_n h)))))) 22 840 840) (b0 + 13) 5 (some (ea_n (ea_wr (ea_new (ea_wr (ea_new h 20 1120 1120) (b0 + 13) 3 (some (ea_n h))) 22 6720 6720) (b0 + 13) 4 (some (ea_n (ea_wr (ea_new h 20 1120 1120) (b0 + 13) 3 (some (ea_n h)))))))))))))) ∧ ((okX10_linkMinutes b0 (wX10_sortKeys b0 (wX10_collect b0 (ea_wr (ea_new (ea_wr (ea_new (ea_wr (ea_new (ea_wr (ea_new h 20 1120 1120) (b0 + 13) 3 (some (ea_n h))) 22 6720 6720) (b0 + 13) 4 (some (ea_n (ea_wr (ea_new h 20 1120 1120) (b0 + 13) 3 (some (ea_n h)))))) 22 840 840) (b0 + 13) 5 (some (ea_n (ea_wr (ea_new (ea_wr (ea_new h 20 1120 1120) (b0 + 13) 3 (some (ea_n h))) 22 6720 6720) (b0 + 13) 4 (some (ea_n (ea_wr (ea_new h 20 1120 1120) (b0 + 13) 3 (some (ea_n h))))))))) 20 560 560) (b0 + 13) 6 (some (ea_n (ea_wr (ea_new (ea_wr (ea_new (ea_wr (ea_new h 20 1120 1120) (b0 + 13) 3 (some (ea_n h))) 22 6720 6720) (b0 + 13) 4 (some (ea_n (ea_wr (ea_new h 20 1120 1120) (b0 + 13) 3 (some (ea_n h)))))) 22 840 840) (b0 + 13) 5 (some (ea_n (ea_wr (ea_new (ea_wr (ea_new h 20 1120 1120) (b0 + 13) 3 (some (ea_n h))) 22 6720 6720) (b0 + 13) 4 (some (ea_n (ea_wr (ea_new h 20 1120 1120) (b0 + 13) 3 (some (ea_n h))))))))))))))) ∧ ((okX10_trace b0 (wX10_linkMinutes b0 (wX10_sortKeys b0 (wX10_collect b0 (ea_wr (ea_new (ea_wr (ea_new (ea_wr (ea_new (ea_wr (ea_new h 20 1120 1120) (b0 + 13) 3 (some (ea_n h))) 22 6720 6720) (b0 + 13) 4 (some (ea_n (ea_wr (ea_new h 20 1120 1120) (b0 + 13) 3 (some (ea_n h)))))) 22 840 840) (b0 + 13) 5 (some (ea_n (ea_wr (ea_new (ea_wr (ea_new h 20 1120 1120) (b0 + 13) 3 (some (ea_n h))) 22 6720 6720) (b0 + 13) 4 (some (ea_n (ea_wr (ea_new h 20 1120 1120) (b0 + 13) 3 (some (ea_n h))))))))) 20 560 560) (b0 + 13) 6 (some (ea_n (ea_wr (ea_new (ea_wr (ea_new (ea_wr (ea_new h 20 1120 1120) (b0 + 13) 3 (some (ea_n h))) 22 6720 6720) (b0 + 13) 4 (some (ea_n (ea_wr (ea_new h 20 1120 1120) (b0 + 13) 3 (some (ea_n h)))))) 22 840 840) (b0 + 13) 5 (some (ea_n (ea_wr (ea_new (ea_wr (ea_new h 20 1120 1120) (b0 + 13) 3 (some (ea_n h))) 22 6720 6720) (b0 + 13) 4 (some (ea_n (ea_wr (ea_new h 20 1120 1120) (b0 + 13) 3 (some (ea_n h)))))))))))))))))))) ∧ (¬ (ea_r h (b0 + 13) 3) = none → (okX10_collect b0 h) ∧ ((okX10_sortKeys b0 (wX10_collect b0 h)) ∧ ((okX10_linkMinutes b0 (wX10_sortKeys b0 (wX10_collect b0 h))) ∧ ((okX10_trace b0 (wX10_linkMinutes b0 (wX10_sortKeys b0 (wX10_collect b0 h))))))))) ∧ (¬ (ea_i h (b0 + 13) 0) = (0 : Int32) → True)
theorem shX10_refresh {b0 : Nat} {h : ea_H} (hs : ShC b0 h) : ShC b0 (wX10_refresh b0 h) := (ShC_it (ShC_it (ShC_wi (shX10_trace (shX10_linkMinutes (shX10_sortKeys (shX10_collect (ShC_wr (o := 13) rfl (ShC_new (ShC_wr (o := 13) rfl (ShC_new (ShC_wr (o := 13) rfl (ShC_new (ShC_wr (o := 13) rfl (ShC_new hs))))))))))))) (ShC_wi (shX10_trace (shX10_linkMinutes (shX10_sortKeys (shX10_collect hs)))))) hs)
theorem sX10_refresh {d : Nat} {b0 : Nat} {h : ea_H} (hd : 4 ≤ d) (hs : ShC b0 h) (K : okX10_refresh b0 h) : ea_Met mX10_refresh d [vR (some (b0 + 13))] h none (wX10_refresh b0 h) := by
  obtain ⟨Y, EY⟩ : ∃ z, z = wX10_refresh b0 h := ⟨_, rfl⟩
  rw [← EY]
  unfold wX10_refresh at EY
  unfold okX10_refresh at K
  refine ea_enter rfl (Nat.le_of_ble_eq_true rfl) ?_
  refine ea_aload_n (pc := 0) dX10_refresh_0 rfl 0 rfl ?_
  refine ea_getI (pc := 1) dX10_refresh_1 ec_10 (k := 0) (Nat.le_of_ble_eq_true rfl) rfl (Or.inl ew_225) (hs.1 13 (by decide)).1 (hs.1 13 (by decide)).2.1 ?_
  refine ea_if_eq (pc := 4) (tgt := 8) dX10_refresh_4 rfl (fun c29 => ?_) (fun c29 => ?_)
  · have EY := EY.trans (if_pos c29)
    have K := K.1 c29
    refine ea_aload_n (pc := 8) dX10_refresh_8 rfl 0 rfl ?_
    refine ea_getR (pc := 9) dX10_refresh_9 ec_10 (k := 3) (Nat.le_of_ble_eq_true rfl) rfl (Or.inl ew_230) (hs.1 13 (by decide)).1 (hs.1 13 (by decide)).2.1 rfl ?_
    refine ea_ifnonnull (pc := 12) (tgt := 51) dX10_refresh_12 rfl (fun a28 c27 => ?_) (fun c27 => ?_)
    · have c27n : ¬ (ea_r h (b0 + 13) 3) = none := by rw [c27]; exact fun q => nomatch q
      have EY := EY.trans (if_neg c27n)
      have K := K.2 c27n
      refine ea_aload_n (pc := 51) dX10_refresh_51 rfl 0 rfl ?_
      obtain ⟨z18, K⟩ := K
      refine ea_callV (pc := 52) (d' := d - 1) (As := []) (st := []) dX10_refresh_52 kX10_collect (sX10_collect (d := d - 1) (by omega) hs z18) (by omega) rfl (Nat.le_of_ble_eq_true rfl) ew_567 ew_569 ew_3 (ci := 10) rfl (by decide) (hs.1 13 (by decide)).1 (hs.1 13 (by decide)).2.1 ?_
      have hs19 : ShC b0 (wX10_collect b0 h) := shX10_collect hs
      refine ea_aload_n (pc := 55) dX10_refresh_55 rfl 0 rfl ?_
      obtain ⟨z20, K⟩ := K
      refine ea_callV (pc := 56) (d' := d - 1) (As := []) (st := []) dX10_refresh_56 kX10_sortKeys (sX10_sortKeys (d := d - 1) (by omega) hs19 z20) (by omega) rfl (Nat.le_of_ble_eq_true rfl) ew_580 ew_582 ew_5 (ci := 10) rfl (by decide) (hs19.1 13 (by decide)).1 (hs19.1 13 (by decide)).2.1 ?_
      have hs21 : ShC b0 (wX10_sortKeys b0 (wX10_collect b0 h)) := shX10_sortKeys hs19
      refine ea_aload_n (pc := 59) dX10_refresh_59 rfl 0 rfl ?_
      obtain ⟨z22, K⟩ := K
      refine ea_callV (pc := 60) (d' := d - 1) (As := []) (st := []) dX10_refresh_60 kX10_linkMinutes (sX10_linkMinutes (d := d - 1) (by omega) hs21 z22) (by omega) rfl (Nat.le_of_ble_eq_true rfl) ew_584 ew_586 ew_6 (ci := 10) rfl (by decide) (hs21.1 13 (by decide)).1 (hs21.1 13 (by decide)).2.1 ?_
      have hs23 : ShC b0 (wX10_linkMinutes b0 (wX10_sortKeys b0 (wX10_collect b0 h))) := shX10_linkMinutes hs21
      refine ea_aload_n (pc := 63) dX10_refresh_63 rfl 0 rfl ?_
      have z24 := K
      refine ea_callV (pc := 64) (d' := d - 1) (As := []) (st := []) dX10_refresh_64 kX10_trace (sX10_trace (d := d - 1) (by omega) hs23 z24) (by omega) rfl (Nat.le_of_ble_eq_true rfl) ew_611 ew_613 ew_8 (ci := 10) rfl (by decide) (hs23.1 13 (by decide)).1 (hs23.1 13 (by decide)).2.1 ?_
      have hs25 : ShC b0 (wX10_trace b0 (wX10_linkMinutes b0 (wX10_sortKeys b0 (wX10_collect b0 h)))) := shX10_trace hs23
      refine ea_aload_n (pc := 67) dX10_refresh_67 rfl 0 rfl ?_
      refine ea_iconst (pc := 68) dX10_refresh_68 (v := 1) rfl ?_
      refine ea_putI (pc := 69) dX10_refresh_69 ec_10 (k := 0) (Nat.le_of_ble_eq_true rfl) rfl (Or.inl ⟨rfl, Or.inl ew_225⟩) (ea_bn (Or.inr rfl)) (ea_bf (Or.inr rfl)) (hs25.1 13 (by decide)).1 (hs25.1 13 (by decide)).2.1 ?_
      have hs26 : ShC b0 (ea_wi (wX10_trace b0 (wX10_linkMinutes b0 (wX10_sortKeys b0 (wX10_collect b0 h)))) (b0 + 13) 0 1) := ShC_wi hs25
      exact ea_vretE (pc := 72) dX10_refresh_72 rfl EY
    · have EY := EY.trans (if_pos c27)
      have K := K.1 c27
      refine ea_aload_n (pc := 15) dX10_refresh_15 rfl 0 rfl ?_
      refine ea_sipush (pc := 16) dX10_refresh_16 (v := 1120) rfl ?_
      refine ea_newI (pc := 19) (N := 1120) dX10_refresh_19 ew_170 (by decide) rfl (Nat.le_of_ble_eq_true rfl) ?_
      have hs1 : ShC b0 (ea_new h 20 1120 1120) := ShC_new hs
      refine ea_putR (pc := 21) dX10_refresh_21 ec_10 (k := 3) (Nat.le_of_ble_eq_true rfl) rfl (Or.inl ⟨rfl, Or.inl ew_230⟩) (hs1.1 13 (by decide)).1 (hs1.1 13 (by decide)).2.1 ?_
      have hs2 : ShC b0 (ea_wr (ea_new h 20 1120 1120) (b0 + 13) 3 (some (ea_n h))) := ShC_wr (o := 13) rfl hs1
      refine ea_aload_n (pc := 24) dX10_refresh_24 rfl 0 rfl ?_
      refine ea_sipush (pc := 25) dX10_refresh_25 (v := 6720) rfl ?_
      refine ea_newJ (pc := 28) (N := 6720) dX10_refresh_28 ew_720 (by decide) rfl (Nat.le_of_ble_eq_true rfl) ?_
      have hs3 : ShC b0 (ea_new (ea_wr (ea_new h 20 1120 1120) (b0 + 13) 3 (some (ea_n h))) 22 6720 6720) := ShC_new hs2
      refine ea_putR (pc := 30) dX10_refresh_30 ec_10 (k := 4) (Nat.le_of_ble_eq_true rfl) rfl (Or.inl ⟨rfl, Or.inl ew_231⟩) (hs3.1 13 (by decide)).1 (hs3.1 13 (by decide)).2.1 ?_
      have hs4 : ShC b0 (ea_wr (ea_new (ea_wr (ea_new h 20 1120 1120) (b0 + 13) 3 (some (ea_n h))) 22 6720 6720) (b0 + 13) 4 (some (ea_n (ea_wr (ea_new h 20 1120 1120) (b0 + 13) 3 (some (ea_n h)))))) := ShC_wr (o := 13) rfl hs3
      refine ea_aload_n (pc := 33) dX10_refresh_33 rfl 0 rfl ?_
      refine ea_sipush (pc := 34) dX10_refresh_34 (v := 840) rfl ?_
      refine ea_newJ (pc := 37) (N := 840) dX10_refresh_37 ew_720 (by decide) rfl (Nat.le_of_ble_eq_true rfl) ?_
      have hs5 : ShC b0 (ea_new (ea_wr (ea_new (ea_wr (ea_new h 20 1120 1120) (b0 + 13) 3 (some (ea_n h))) 22 6720 6720) (b0 + 13) 4 (some (ea_n (ea_wr (ea_new h 20 1120 1120) (b0 + 13) 3 (some (ea_n h)))))) 22 840 840) := ShC_new hs4
      refine ea_putR (pc := 39) dX10_refresh_39 ec_10 (k := 5) (Nat.le_of_ble_eq_true rfl) rfl (Or.inl ⟨rfl, Or.inl ew_232⟩) (hs5.1 13 (by decide)).1 (hs5.1 13 (by decide)).2.1 ?_
      have hs6 : ShC b0 (ea_wr (ea_new (ea_wr (ea_new (ea_wr (ea_new h 20 1120 1120) (b0 + 13) 3 (some (ea_n h))) 22 6720 6720) (b0 + 13) 4 (some (ea_n (ea_wr (ea_new h 20 1120 1120) (b0 + 13) 3 (some (ea_n h)))))) 22 840 840) (b0 + 13) 5 (some (ea_n (ea_wr (ea_new (ea_wr (ea_new h 20 1120 1120) (b0 + 13) 3 (some (ea_n h))) 22 6720 6720) (b0 + 13) 4 (some (ea_n (ea_wr (ea_new h 20 1120 1120) (b0 + 13) 3 (some (ea_n h))))))))) := ShC_wr (o := 13) rfl hs5
      refine ea_aload_n (pc := 42) dX10_refresh_42 rfl 0 rfl ?_
      refine ea_sipush (pc := 43) dX10_refresh_43 (v := 560) rfl ?_
      refine ea_newI (pc := 46) (N := 560) dX10_refresh_46 ew_170 (by decide) rfl (Nat.le_of_ble_eq_true rfl) ?_
      have hs7 : ShC b0 (ea_new (ea_wr (ea_new (ea_wr (ea_new (ea_wr (ea_new h 20 1120 1120) (b0 + 13) 3 (some (ea_n h))) 22 6720 6720) (b0 + 13) 4 (some (ea_n (ea_wr (ea_new h 20 1120 1120) (b0 + 13) 3 (some (ea_n h)))))) 22 840 840) (b0 + 13) 5 (some (ea_n (ea_wr (ea_new (ea_wr (ea_new h 20 1120 1120) (b0 + 13) 3 (some (ea_n h))) 22 6720 6720) (b0 + 13) 4 (some (ea_n (ea_wr (ea_new h 20 1120 1120) (b0 + 13) 3 (some (ea_n h))))))))) 20 560 560) := ShC_new hs6
      refine ea_putR (pc := 48) dX10_refresh_48 ec_10 (k := 6) (Nat.le_of_ble_eq_true rfl) rfl (Or.inl ⟨rfl, Or.inl ew_233⟩) (hs7.1 13 (by decide)).1 (hs7.1 13 (by decide)).2.1 ?_
      have hs8 : ShC b0 (ea_wr (ea_new (ea_wr (ea_new (ea_wr (ea_new (ea_wr (ea_new h 20 1120 1120) (b0 + 13) 3 (some (ea_n h))) 22 6720 6720) (b0 + 13) 4 (some (ea_n (ea_wr (ea_new h 20 1120 1120) (b0 + 13) 3 (some (ea_n h)))))) 22 840 840) (b0 + 13) 5 (some (ea_n (ea_wr (ea_new (ea_wr (ea_new h 20 1120 1120) (b0 + 13) 3 (some (ea_n h))) 22 6720 6720) (b0 + 13) 4 (some (ea_n (ea_wr (ea_new h 20 1120 1120) (b0 + 13) 3 (some (ea_n h))))))))) 20 560 560) (b0 + 13) 6 (some (ea_n (ea_wr (ea_new (ea_wr (ea_new (ea_wr (ea_new h 20 1120 1120) (b0 + 13) 3 (some (ea_n h))) 22 6720 6720) (b0 + 13) 4 (some (ea_n (ea_wr (ea_new h 20 1120 1120) (b0 + 13) 3 (some (ea_n h)))))) 22 840 840) (b0 + 13) 5 (some (ea_n (ea_wr (ea_new (ea_wr (ea_new h 20 1120 1120) (b0 + 13) 3 (some (ea_n h))) 22 6720 6720) (b0 + 13) 4 (some (ea_n (ea_wr (ea_new h 20 1120 1120) (b0 + 13) 3 (some (ea_n h)))))))))))) := ShC_wr (o := 13) rfl hs7
      refine ea_aload_n (pc := 51) dX10_refresh_51 rfl 0 rfl ?_
      obtain ⟨z9, K⟩ := K
      refine ea_callV (pc := 52) (d' := d - 1) (As := []) (st := []) dX10_refresh_52 kX10_collect (sX10_collect (d := d - 1) (by omega) hs8 z9) (by omega) rfl (Nat.le_of_ble_eq_true rfl) ew_567 ew_569 ew_3 (ci := 10) rfl (by decide) (hs8.1 13 (by decide)).1 (hs8.1 13 (by decide)).2.1 ?_
      have hs10 : ShC b0 (wX10_collect b0 (ea_wr (ea_new (ea_wr (ea_new (ea_wr (ea_new (ea_wr (ea_new h 20 1120 1120) (b0 + 13) 3 (some (ea_n h))) 22 6720 6720) (b0 + 13) 4 (some (ea_n (ea_wr (ea_new h 20 1120 1120) (b0 + 13) 3 (some (ea_n h)))))) 22 840 840) (b0 + 13) 5 (some (ea_n (ea_wr (ea_new (ea_wr (ea_new h 20 1120 1120) (b0 + 13) 3 (some (ea_n h))) 22 6720 6720) (b0 + 13) 4 (some (ea_n (ea_wr (ea_new h 20 1120 1120) (b0 + 13) 3 (some (ea_n h))))))))) 20 560 560) (b0 + 13) 6 (some (ea_n (ea_wr (ea_new (ea_wr (ea_new (ea_wr (ea_new h 20 1120 1120) (b0 + 13) 3 (some (ea_n h))) 22 6720 6720) (b0 + 13) 4 (some (ea_n (ea_wr (ea_new h 20 1120 1120) (b0 + 13) 3 (some (ea_n h)))))) 22 840 840) (b0 + 13) 5 (some (ea_n (ea_wr (ea_new (ea_wr (ea_new h 20 1120 1120) (b0 + 13) 3 (some (ea_n h))) 22 6720 6720) (b0 + 13) 4 (some (ea_n (ea_wr (ea_new h 20 1120 1120) (b0 + 13) 3 (some (ea_n h))))))))))))) := shX10_collect hs8
      refine ea_aload_n (pc := 55) dX10_refresh_55 rfl 0 rfl ?_
      obtain ⟨z11, K⟩ := K
      refine ea_callV (pc := 56) (d' := d - 1) (As := []) (st := []) dX10_refresh_56 kX10_sortKeys (sX10_sortKeys (d := d - 1) (by omega) hs10 z11) (by omega) rfl (Nat.le_of_ble_eq_true rfl) ew_580 ew_582 ew_5 (ci := 10) rfl (by decide) (hs10.1 13 (by decide)).1 (hs10.1 13 (by decide)).2.1 ?_
      have hs12 : ShC b0 (wX10_sortKeys b0 (wX10_collect b0 (ea_wr (ea_new (ea_wr (ea_new (ea_wr (ea_new (ea_wr (ea_new h 20 1120 1120) (b0 + 13) 3 (some (ea_n h))) 22 6720 6720) (b0 + 13) 4 (some (ea_n (ea_wr (ea_new h 20 1120 1120) (b0 + 13) 3 (some (ea_n h)))))) 22 840 840) (b0 + 13) 5 (some (ea_n (ea_wr (ea_new (ea_wr (ea_new h 20 1120 1120) (b0 + 13) 3 (some (ea_n h))) 22 6720 6720) (b0 + 13) 4 (some (ea_n (ea_wr (ea_new h 20 1120 1120) (b0 + 13) 3 (some (ea_n h))))))))) 20 560 560) (b0 + 13) 6 (some (ea_n (ea_wr (ea_new (ea_wr (ea_new (ea_wr (ea_new h 20 1120 1120) (b0 + 13) 3 (some (ea_n h))) 22 6720 6720) (b0 + 13) 4 (some (ea_n (ea_wr (ea_new h 20 1120 1120) (b0 + 13) 3 (some (ea_n h)))))) 22 840 840) (b0 + 13) 5 (some (ea_n (ea_wr (ea_new (ea_wr (ea_new h 20 1120 1120) (b0 + 13) 3 (some (ea_n h))) 22 6720 6720) (b0 + 13) 4 (some (ea_n (ea_wr (ea_new h 20 1120 1120) (b0 + 13) 3 (some (ea_n h)))))))))))))) := shX10_sortKeys hs10
      refine ea_aload_n (pc := 59) dX10_refresh_59 rfl 0 rfl ?_
      obtain ⟨z13, K⟩ := K
      refine ea_callV (pc := 60) (d' := d - 1) (As := []) (st := []) dX10_refresh_60 kX10_linkMinutes (sX10_linkMinutes (d := d - 1) (by omega) hs12 z13) (by omega) rfl (Nat.le_of_ble_eq_true rfl) ew_584 ew_586 ew_6 (ci := 10) rfl (by decide) (hs12.1 13 (by decide)).1 (hs12.1 13 (by decide)).2.1 ?_
      have hs14 : ShC b0 (wX10_linkMinutes b0 (wX10_sortKeys b0 (wX10_collect b0 (ea_wr (ea_new (ea_wr (ea_new (ea_wr (ea_new (ea_wr (ea_new h 20 1120 1120) (b0 + 13) 3 (some (ea_n h))) 22 6720 6720) (b0 + 13) 4 (some (ea_n (ea_wr (ea_new h 20 1120 1120) (b0 + 13) 3 (some (ea_n h)))))) 22 840 840) (b0 + 13) 5 (some (ea_n (ea_wr (ea_new (ea_wr (ea_new h 20 1120 1120) (b0 + 13) 3 (some (ea_n h))) 22 6720 6720) (b0 + 13) 4 (some (ea_n (ea_wr (ea_new h 20 1120 1120) (b0 + 13) 3 (some (ea_n h))))))))) 20 560 560) (b0 + 13) 6 (some (ea_n (ea_wr (ea_new (ea_wr (ea_new (ea_wr (ea_new h 20 1120 1120) (b0 + 13) 3 (some (ea_n h))) 22 6720 6720) (b0 + 13) 4 (some (ea_n (ea_wr (ea_new h 20 1120 1120) (b0 + 13) 3 (some (ea_n h)))))) 22 840 840) (b0 + 13) 5 (some (ea_n (ea_wr (ea_new (ea_wr (ea_new h 20 1120 1120) (b0 + 13) 3 (some (ea_n h))) 22 6720 6720) (b0 + 13) 4 (some (ea_n (ea_wr (ea_new h 20 1120 1120) (b0 + 13) 3 (some (ea_n h))))))))))))))) := shX10_linkMinutes hs12
      refine ea_aload_n (pc := 63) dX10_refresh_63 rfl 0 rfl ?_
      have z15 := K
      refine ea_callV (pc := 64) (d' := d - 1) (As := []) (st := []) dX10_refresh_64 kX10_trace (sX10_trace (d := d - 1) (by omega) hs14 z15) (by omega) rfl (Nat.le_of_ble_eq_true rfl) ew_611 ew_613 ew_8 (ci := 10) rfl (by decide) (hs14.1 13 (by decide)).1 (hs14.1 13 (by decide)).2.1 ?_
      have hs16 : ShC b0 (wX10_trace b0 (wX10_linkMinutes b0 (wX10_sortKeys b0 (wX10_collect b0 (ea_wr (ea_new (ea_wr (ea_new (ea_wr (ea_new (ea_wr (ea_new h 20 1120 1120) (b0 + 13) 3 (some (ea_n h))) 22 6720 6720) (b0 + 13) 4 (some (ea_n (ea_wr (ea_new h 20 1120 1120) (b0 + 13) 3 (some (ea_n h)))))) 22 840 840) (b0 + 13) 5 (some (ea_n (ea_wr (ea_new (ea_wr (ea_new h 20 1120 1120) (b0 + 13) 3 (some (ea_n h))) 22 6720 6720) (b0 + 13) 4 (some (ea_n (ea_wr (ea_new h 20 1120 1120) (b0 + 13) 3 (some (ea_n h))))))))) 20 560 560) (b0 + 13) 6 (some (ea_n (ea_wr (ea_new (ea_wr (ea_new (ea_wr (ea_new h 20 1120 1120) (b0 + 13) 3 (some (ea_n h))) 22 6720 6720) (b0 + 13) 4 (some (ea_n (ea_wr (ea_new h 20 1120 1120) (b0 + 13) 3 (some (ea_n h)))))) 22 840 840) (b0 + 13) 5 (some (ea_n (ea_wr (ea_new (ea_wr (ea_new h 20 1120 1120) (b0 + 13) 3 (some (ea_n h))) 22 6720 6720) (b0 + 13) 4 (some (ea_n (ea_wr (ea_new h 20 1120 1120) (b0 + 13) 3 (some (ea_n h)))))))))))))))) := shX10_trace hs14
      refine ea_aload_n (pc := 67) dX10_refresh_67 rfl 0 rfl ?_
      refine ea_iconst (pc := 68) dX10_refresh_68 (v := 1) rfl ?_
      refine ea_putI (pc := 69) dX10_refresh_69 ec_10 (k := 0) (Nat.le_of_ble_eq_true rfl) rfl (Or.inl ⟨rfl, Or.inl ew_225⟩) (ea_bn (Or.inr rfl)) (ea_bf (Or.inr rfl)) (hs16.1 13 (by decide)).1 (hs16.1 13 (by decide)).2.1 ?_
      have hs17 : ShC b0 (ea_wi (wX10_trace b0 (wX10_linkMinutes b0 (wX10_sortKeys b0 (wX10_collect b0 (ea_wr (ea_new (ea_wr (ea_new (ea_wr (ea_new (ea_wr (ea_new h 20 1120 1120) (b0 + 13) 3 (some (ea_n h))) 22 6720 6720) (b0 + 13) 4 (some (ea_n (ea_wr (ea_new h 20 1120 1120) (b0 + 13) 3 (some (ea_n h)))))) 22 840 840) (b0 + 13) 5 (some (ea_n (ea_wr (ea_new (ea_wr (ea_new h 20 1120 1120) (b0 + 13) 3 (some (ea_n h))) 22 6720 6720) (b0 + 13) 4 (some (ea_n (ea_wr (ea_new h 20 1120 1120) (b0 + 13) 3 (some (ea_n h))))))))) 20 560 560) (b0 + 13) 6 (some (ea_n (ea_wr (ea_new (ea_wr (ea_new (ea_wr (ea_new h 20 1120 1120) (b0 + 13) 3 (some (ea_n h))) 22 6720 6720) (b0 + 13) 4 (some (ea_n (ea_wr (ea_new h 20 1120 1120) (b0 + 13) 3 (some (ea_n h)))))) 22 840 840) (b0 + 13) 5 (some (ea_n (ea_wr (ea_new (ea_wr (ea_new h 20 1120 1120) (b0 + 13) 3 (some (ea_n h))) 22 6720 6720) (b0 + 13) 4 (some (ea_n (ea_wr (ea_new h 20 1120 1120) (b0 + 13) 3 (some (ea_n h)))))))))))))))) (b0 + 13) 0 1) := ShC_wi hs16
      exact ea_vretE (pc := 72) dX10_refresh_72 rfl EY
  · have EY := EY.trans (if_neg c29)
    exact ea_vretE (pc := 7) dX10_refresh_7 rfl EY
noncomputable def gX11_init (a0 : Nat) : Nat → Nat → Int32 → ea_H → Option (Unit × ea_H)
  | 0, _, _, _ => none
  | f + 1, lbl, x1, h =>
    if lbl = 0 then (ea_let (ea_new h 6 0 4) fun H2 => (gd ((okX6_init (ea_n h) H2)) (ea_let (wX6_init (ea_n h) H2) fun H5 => (gd ((a0 < ea_n H5 ∧ ea_c H5 a0 = 11)) (ea_let (ea_wr H5 a0 0 (some (ea_n h))) fun H8 => (ea_let (ea_new H8 9 0 8) fun H10 => (gd ((okX9_init (ea_n H8) H10)) (ea_let (wX9_init (ea_n H8) H10) fun H13 => (gd ((a0 < ea_n H13 ∧ ea_c H13 a0 = 11)) (ea_let (ea_wr H13 a0 1 (some (ea_n H8))) fun H16 => (ea_let (ea_new H16 10 0 9) fun H18 => (gd ((a0 < ea_n H18 ∧ ea_c H18 a0 = 11)) (gd ((okX10_init (ea_n H16) ((ea_r H18 a0 1) : Option Nat) H18)) (ea_let (wX10_init (ea_n H16) ((ea_r H18 a0 1) : Option Nat) H18) fun H22 => (gd ((a0 < ea_n H22 ∧ ea_c H22 a0 = 11)) (ea_let (ea_wr H22 a0 2 (some (ea_n H16))) fun H25 => (ea_let (ea_new H25 3 0 5) fun H27 => (gd ((okX3_init (ea_n H25) H27)) (ea_let (wX3_init (ea_n H25) H27) fun H30 => (gd ((a0 < ea_n H30 ∧ ea_c H30 a0 = 11)) (ea_let (ea_wr H30 a0 3 (some (ea_n H25))) fun H33 => (ea_let (ea_new H33 8 0 5) fun H35 => (gd ((okX8_init (ea_n H33) H35)) (ea_let (wX8_init (ea_n H33) H35) fun H38 => (gd ((a0 < ea_n H38 ∧ ea_c H38 a0 = 11)) (ea_let (ea_wr H38 a0 4 (some (ea_n H33))) fun H41 => (ea_let (ea_new H41 23 120 120) fun H43 => (gd ((a0 < ea_n H43 ∧ ea_c H43 a0 = 11)) (ea_let (ea_wr H43 a0 5 (some (ea_n H41))) fun H46 => (ea_let (ea_new H46 1 0 16) fun H48 => (gd ((a0 < ea_n H48 ∧ ea_c H48 a0 = 11)) (gd ((a0 < ea_n H48 ∧ ea_c H48 a0 = 11)) (gd ((a0 < ea_n H48 ∧ ea_c H48 a0 = 11)) (gd ((a0 < ea_n H48 ∧ ea_c H48 a0 = 11)) (gd ((okX1_init (ea_n H46) ((ea_r H48 a0 1) : Option Nat) ((ea_r H48 a0 2) : Option Nat) ((ea_r H48 a0 3) : Option Nat) ((ea_r H48 a0 5) : Option Nat) (1 : Int32) H48)) (ea_let (wX1_init (ea_n H46) ((ea_r H48 a0 1) : Option Nat) ((ea_r H48 a0 2) : Option Nat) ((ea_r H48 a0 3) : Option Nat) ((ea_r H48 a0 5) : Option Nat) (1 : Int32) H48) fun H55 => (gd ((a0 < ea_n H55 ∧ ea_c H55 a0 = 11)) (ea_let (ea_wr H55 a0 6 (some (ea_n H46))) fun H58 => (ea_let (ea_new H58 1 0 16) fun H60 => (gd ((a0 < ea_n H60 ∧ ea_c H60 a0 = 11)) (gd ((a0 < ea_n H60 ∧ ea_c H60 a0 = 11)) (gd ((a0 < ea_n H60 ∧ ea_c H60 a0 = 11)) (gd ((a0 < ea_n H60 ∧ ea_c H60 a0 = 11)) (gd ((okX1_init (ea_n H58) ((ea_r H60 a0 1) : Option Nat) ((ea_r H60 a0 2) : Option Nat) ((ea_r H60 a0 3) : Option Nat) ((ea_r H60 a0 5) : Option Nat) (0 : Int32) H60)) (ea_let (wX1_init (ea_n H58) ((ea_r H60 a0 1) : Option Nat) ((ea_r H60 a0 2) : Option Nat) ((ea_r H60 a0 3) : Option Nat) ((ea_r H60 a0 5) : Option Nat) (0 : Int32) H60) fun H67 => (gd ((a0 < ea_n H67 ∧ ea_c H67 a0 = 11)) (ea_let (ea_wr H67 a0 7 (some (ea_n H58))) fun H70 => (ea_let (ea_new H70 24 10 10) fun H72 => (gd ((a0 < ea_n H72 ∧ ea_c H72 a0 = 11)) (ea_let (ea_wr H72 a0 8 (some (ea_n H70))) fun H75 => (ea_let (ea_new H75 25 20 20) fun H77 => (gd ((a0 < ea_n H77 ∧ ea_c H77 a0 = 11)) (ea_let (ea_wr H77 a0 9 (some (ea_n H75))) fun H80 => (gX11_init a0 f 148 (0 : Int32) H80)))))))))))))))))))))))))))))))))))))))))))))))))))))) else
    if lbl = 148 then (if (10 : Int32) ≤ x1 then (some ((), h)) else (gd ((a0 < ea_n h ∧ ea_c h a0 = 11)) (ea_let (ea_new h 2 0 3) fun H83 => (gd ((okX2_init (ea_n h) H83)) (ea_let (wX2_init (ea_n h) H83) fun H86 => (gd ((ea_r h a0 8) = some (Option.getD (ea_r h a0 8) 0)) (gd (((Option.getD (ea_r h a0 8) 0) < ea_n H86 ∧ ea_c H86 (Option.getD (ea_r h a0 8) 0) = 24)) (gd (vp_in x1 (ea_l H86 (Option.getD (ea_r h a0 8) 0))) (gd (((ea_n h) < ea_n H86 ∧ ea_c H86 (ea_n h) = 2)) (ea_let (ea_wr H86 (Option.getD (ea_r h a0 8) 0) (Int32.toNatClampNeg x1) (some (ea_n h))) fun H92 => (gX11_init a0 f 148 ((x1 + (1 : Int32)) : Int32) H92))))))))))) else none
theorem tX11_init {d : Nat} {a0 : Nat} {h0 : ea_H} (hd : 4 ≤ d) : ∀ (f lbl : Nat) (x1 : Int32) (h : ea_H) (r : Unit) (h' : ea_H), gX11_init a0 f lbl x1 h = some (r, h') → (lbl = 0 → ea_W mX11_init d h0 none h' 0 [(0, vR (some a0))] [] h) ∧ (lbl = 148 → ea_W mX11_init d h0 none h' 148 [(0, vR (some a0)), (1, vI x1)] [] h) := by
  intro f
  induction f with
  | zero => intro lbl x1 h r h' E; cases E
  | succ f ih =>
    intro lbl x1 h r h' E
    unfold gX11_init at E
    refine ⟨?_, ?_⟩
    · intro el
      subst el
      have E := (if_pos rfl).symm.trans E
      refine ea_aload_n (pc := 0) dX11_init_0 rfl 0 rfl ?_
      refine ea_objInit (pc := 1) dX11_init_1 ew_133 ew_134 ew_135 (by omega) (Nat.le_of_ble_eq_true rfl) ?_
      refine ea_aload_n (pc := 4) dX11_init_4 rfl 0 rfl ?_
      refine ea_newO (pc := 5) dX11_init_5 ec_6 ew_136 ew_137 ew_109 ?_
      obtain ⟨H2, eH2, E⟩ := let_some E
      refine ea_nm eH2 ?_
      refine ea_dup (pc := 8) dX11_init_8 rfl ?_
      obtain ⟨z3, E⟩ := gd_some E
      refine ea_callI (pc := 9) (d' := d - 1) (As := []) (st := [vR (some (ea_n h)), vR (some a0)]) dX11_init_9 kX6_init (sX6_init (d := d - 1) (by omega) z3) (by omega) rfl (Nat.le_of_ble_eq_true rfl) ew_138 ew_139 rfl rfl ?_
      obtain ⟨H5, eH5, E⟩ := let_some E
      refine ea_nm eH5 ?_
      obtain ⟨f6, E⟩ := gd_some E
      refine ea_putR (pc := 12) dX11_init_12 ec_11 (k := 0) (Nat.le_of_ble_eq_true rfl) rfl (Or.inr ⟨rfl, rfl, rfl, ew_437⟩) f6.1 f6.2 ?_
      obtain ⟨H8, eH8, E⟩ := let_some E
      refine ea_nm eH8 ?_
      refine ea_aload_n (pc := 15) dX11_init_15 rfl 0 rfl ?_
      refine ea_newO (pc := 16) dX11_init_16 ec_9 ew_171 ew_172 ew_113 ?_
      obtain ⟨H10, eH10, E⟩ := let_some E
      refine ea_nm eH10 ?_
      refine ea_dup (pc := 19) dX11_init_19 rfl ?_
      obtain ⟨z11, E⟩ := gd_some E
      refine ea_callIN (pc := 20) (d' := d - 1) (As := []) (st := [vR (some (ea_n H8)), vR (some a0)]) dX11_init_20 kX9_init (sX9_init (d := d - 1) (by omega) z11) (by omega) rfl (Nat.le_of_ble_eq_true rfl) ew_173 ew_174 rfl rfl ?_
      obtain ⟨H13, eH13, E⟩ := let_some E
      refine ea_nm eH13 ?_
      obtain ⟨f14, E⟩ := gd_some E
      refine ea_putR (pc := 23) dX11_init_23 ec_11 (k := 1) (Nat.le_of_ble_eq_true rfl) rfl (Or.inr ⟨rfl, rfl, rfl, ew_438⟩) f14.1 f14.2 ?_
      obtain ⟨H16, eH16, E⟩ := let_some E
      refine ea_nm eH16 ?_
      refine ea_aload_n (pc := 26) dX11_init_26 rfl 0 rfl ?_
      refine ea_newO (pc := 27) dX11_init_27 ec_10 ew_219 ew_220 ew_114 ?_
      obtain ⟨H18, eH18, E⟩ := let_some E
      refine ea_nm eH18 ?_
      refine ea_dup (pc := 30) dX11_init_30 rfl ?_
      refine ea_aload_n (pc := 31) dX11_init_31 rfl 0 rfl ?_
      obtain ⟨f19, E⟩ := gd_some E
      refine ea_getR (pc := 32) dX11_init_32 ec_11 (k := 1) (Nat.le_of_ble_eq_true rfl) rfl (Or.inl ew_438) f19.1 f19.2 rfl ?_
      obtain ⟨z20, E⟩ := gd_some E
      refine ea_callI (pc := 35) (d' := d - 1) (As := [vR (ea_r H18 a0 1)]) (st := [vR (some (ea_n H16)), vR (some a0)]) dX11_init_35 kX10_init (sX10_init (d := d - 1) (by omega) z20) (by omega) rfl (Nat.le_of_ble_eq_true rfl) ew_221 ew_222 rfl rfl ?_
      obtain ⟨H22, eH22, E⟩ := let_some E
      refine ea_nm eH22 ?_
      obtain ⟨f23, E⟩ := gd_some E
      refine ea_putR (pc := 38) dX11_init_38 ec_11 (k := 2) (Nat.le_of_ble_eq_true rfl) rfl (Or.inr ⟨rfl, rfl, rfl, ew_439⟩) f23.1 f23.2 ?_
      obtain ⟨H25, eH25, E⟩ := let_some E
      refine ea_nm eH25 ?_
      refine ea_aload_n (pc := 41) dX11_init_41 rfl 0 rfl ?_
      refine ea_newO (pc := 42) dX11_init_42 ec_3 ew_255 ew_256 ew_115 ?_
      obtain ⟨H27, eH27, E⟩ := let_some E
      refine ea_nm eH27 ?_
      refine ea_dup (pc := 45) dX11_init_45 rfl ?_
      obtain ⟨z28, E⟩ := gd_some E
      refine ea_callIN (pc := 46) (d' := d - 1) (As := []) (st := [vR (some (ea_n H25)), vR (some a0)]) dX11_init_46 kX3_init (sX3_init (d := d - 1) (by omega) z28) (by omega) rfl (Nat.le_of_ble_eq_true rfl) ew_257 ew_258 rfl rfl ?_
      obtain ⟨H30, eH30, E⟩ := let_some E
      refine ea_nm eH30 ?_
      obtain ⟨f31, E⟩ := gd_some E
      refine ea_putR (pc := 49) dX11_init_49 ec_11 (k := 3) (Nat.le_of_ble_eq_true rfl) rfl (Or.inr ⟨rfl, rfl, rfl, ew_440⟩) f31.1 f31.2 ?_
      obtain ⟨H33, eH33, E⟩ := let_some E
      refine ea_nm eH33 ?_
      refine ea_aload_n (pc := 52) dX11_init_52 rfl 0 rfl ?_
      refine ea_newO (pc := 53) dX11_init_53 ec_8 ew_279 ew_280 ew_116 ?_
      obtain ⟨H35, eH35, E⟩ := let_some E
      refine ea_nm eH35 ?_
      refine ea_dup (pc := 56) dX11_init_56 rfl ?_
      obtain ⟨z36, E⟩ := gd_some E
      refine ea_callIN (pc := 57) (d' := d - 1) (As := []) (st := [vR (some (ea_n H33)), vR (some a0)]) dX11_init_57 kX8_init (sX8_init (d := d - 1) (by omega) z36) (by omega) rfl (Nat.le_of_ble_eq_true rfl) ew_281 ew_282 rfl rfl ?_
      obtain ⟨H38, eH38, E⟩ := let_some E
      refine ea_nm eH38 ?_
      obtain ⟨f39, E⟩ := gd_some E
      refine ea_putR (pc := 60) dX11_init_60 ec_11 (k := 4) (Nat.le_of_ble_eq_true rfl) rfl (Or.inr ⟨rfl, rfl, rfl, ew_441⟩) f39.1 f39.2 ?_
      obtain ⟨H41, eH41, E⟩ := let_some E
      refine ea_nm eH41 ?_
      refine ea_aload_n (pc := 63) dX11_init_63 rfl 0 rfl ?_
      refine ea_bipush (pc := 64) dX11_init_64 (v := 120) rfl ?_
      refine ea_newR23 (pc := 66) (N := 120) dX11_init_66 ew_351 ew_352 (by decide) rfl (Nat.le_of_ble_eq_true rfl) ?_
      obtain ⟨H43, eH43, E⟩ := let_some E
      refine ea_nm eH43 ?_
      obtain ⟨f44, E⟩ := gd_some E
      refine ea_putR (pc := 69) dX11_init_69 ec_11 (k := 5) (Nat.le_of_ble_eq_true rfl) rfl (Or.inr ⟨rfl, rfl, rfl, ew_442⟩) f44.1 f44.2 ?_
      obtain ⟨H46, eH46, E⟩ := let_some E
      refine ea_nm eH46 ?_
      refine ea_aload_n (pc := 72) dX11_init_72 rfl 0 rfl ?_
      refine ea_newO (pc := 73) dX11_init_73 ec_1 ew_353 ew_354 ew_118 ?_
      obtain ⟨H48, eH48, E⟩ := let_some E
      refine ea_nm eH48 ?_
      refine ea_dup (pc := 76) dX11_init_76 rfl ?_
      refine ea_aload_n (pc := 77) dX11_init_77 rfl 0 rfl ?_
      obtain ⟨f49, E⟩ := gd_some E
      refine ea_getR (pc := 78) dX11_init_78 ec_11 (k := 1) (Nat.le_of_ble_eq_true rfl) rfl (Or.inl ew_438) f49.1 f49.2 rfl ?_
      refine ea_aload_n (pc := 81) dX11_init_81 rfl 0 rfl ?_
      obtain ⟨f50, E⟩ := gd_some E
      refine ea_getR (pc := 82) dX11_init_82 ec_11 (k := 2) (Nat.le_of_ble_eq_true rfl) rfl (Or.inl ew_439) f50.1 f50.2 rfl ?_
      refine ea_aload_n (pc := 85) dX11_init_85 rfl 0 rfl ?_
      obtain ⟨f51, E⟩ := gd_some E
      refine ea_getR (pc := 86) dX11_init_86 ec_11 (k := 3) (Nat.le_of_ble_eq_true rfl) rfl (Or.inl ew_440) f51.1 f51.2 rfl ?_
      refine ea_aload_n (pc := 89) dX11_init_89 rfl 0 rfl ?_
      obtain ⟨f52, E⟩ := gd_some E
      refine ea_getR (pc := 90) dX11_init_90 ec_11 (k := 5) (Nat.le_of_ble_eq_true rfl) rfl (Or.inl ew_442) f52.1 f52.2 rfl ?_
      refine ea_iconst (pc := 93) dX11_init_93 (v := 1) rfl ?_
      obtain ⟨z53, E⟩ := gd_some E
      refine ea_callI (pc := 94) (d' := d - 1) (As := [vR (ea_r H48 a0 1), vR (ea_r H48 a0 2), vR (ea_r H48 a0 3), vR (ea_r H48 a0 5), vI 1]) (st := [vR (some (ea_n H46)), vR (some a0)]) dX11_init_94 kX1_init (sX1_init (d := d - 1) (by omega) z53) (by omega) rfl (Nat.le_of_ble_eq_true rfl) ew_355 ew_356 rfl rfl ?_
      obtain ⟨H55, eH55, E⟩ := let_some E
      refine ea_nm eH55 ?_
      obtain ⟨f56, E⟩ := gd_some E
      refine ea_putR (pc := 97) dX11_init_97 ec_11 (k := 6) (Nat.le_of_ble_eq_true rfl) rfl (Or.inr ⟨rfl, rfl, rfl, ew_443⟩) f56.1 f56.2 ?_
      obtain ⟨H58, eH58, E⟩ := let_some E
      refine ea_nm eH58 ?_
      refine ea_aload_n (pc := 100) dX11_init_100 rfl 0 rfl ?_
      refine ea_newO (pc := 101) dX11_init_101 ec_1 ew_353 ew_354 ew_118 ?_
      obtain ⟨H60, eH60, E⟩ := let_some E
      refine ea_nm eH60 ?_
      refine ea_dup (pc := 104) dX11_init_104 rfl ?_
      refine ea_aload_n (pc := 105) dX11_init_105 rfl 0 rfl ?_
      obtain ⟨f61, E⟩ := gd_some E
      refine ea_getR (pc := 106) dX11_init_106 ec_11 (k := 1) (Nat.le_of_ble_eq_true rfl) rfl (Or.inl ew_438) f61.1 f61.2 rfl ?_
      refine ea_aload_n (pc := 109) dX11_init_109 rfl 0 rfl ?_
      obtain ⟨f62, E⟩ := gd_some E
      refine ea_getR (pc := 110) dX11_init_110 ec_11 (k := 2) (Nat.le_of_ble_eq_true rfl) rfl (Or.inl ew_439) f62.1 f62.2 rfl ?_
      refine ea_aload_n (pc := 113) dX11_init_113 rfl 0 rfl ?_
      obtain ⟨f63, E⟩ := gd_some E
      refine ea_getR (pc := 114) dX11_init_114 ec_11 (k := 3) (Nat.le_of_ble_eq_true rfl) rfl (Or.inl ew_440) f63.1 f63.2 rfl ?_
      refine ea_aload_n (pc := 117) dX11_init_117 rfl 0 rfl ?_
      obtain ⟨f64, E⟩ := gd_some E
      refine ea_getR (pc := 118) dX11_init_118 ec_11 (k := 5) (Nat.le_of_ble_eq_true rfl) rfl (Or.inl ew_442) f64.1 f64.2 rfl ?_
      refine ea_iconst (pc := 121) dX11_init_121 (v := 0) rfl ?_
      obtain ⟨z65, E⟩ := gd_some E
      refine ea_callI (pc := 122) (d' := d - 1) (As := [vR (ea_r H60 a0 1), vR (ea_r H60 a0 2), vR (ea_r H60 a0 3), vR (ea_r H60 a0 5), vI 0]) (st := [vR (some (ea_n H58)), vR (some a0)]) dX11_init_122 kX1_init (sX1_init (d := d - 1) (by omega) z65) (by omega) rfl (Nat.le_of_ble_eq_true rfl) ew_355 ew_356 rfl rfl ?_
      obtain ⟨H67, eH67, E⟩ := let_some E
      refine ea_nm eH67 ?_
      obtain ⟨f68, E⟩ := gd_some E
      refine ea_putR (pc := 125) dX11_init_125 ec_11 (k := 7) (Nat.le_of_ble_eq_true rfl) rfl (Or.inr ⟨rfl, rfl, rfl, ew_444⟩) f68.1 f68.2 ?_
      obtain ⟨H70, eH70, E⟩ := let_some E
      refine ea_nm eH70 ?_
      refine ea_aload_n (pc := 128) dX11_init_128 rfl 0 rfl ?_
      refine ea_bipush (pc := 129) dX11_init_129 (v := 10) rfl ?_
      refine ea_newR24 (pc := 131) (N := 10) dX11_init_131 ew_415 ew_416 (by decide) rfl (Nat.le_of_ble_eq_true rfl) ?_
      obtain ⟨H72, eH72, E⟩ := let_some E
      refine ea_nm eH72 ?_
      obtain ⟨f73, E⟩ := gd_some E
      refine ea_putR (pc := 134) dX11_init_134 ec_11 (k := 8) (Nat.le_of_ble_eq_true rfl) rfl (Or.inr ⟨rfl, rfl, rfl, ew_445⟩) f73.1 f73.2 ?_
      obtain ⟨H75, eH75, E⟩ := let_some E
      refine ea_nm eH75 ?_
      refine ea_aload_n (pc := 137) dX11_init_137 rfl 0 rfl ?_
      refine ea_bipush (pc := 138) dX11_init_138 (v := 20) rfl ?_
      refine ea_newR25 (pc := 140) (N := 20) dX11_init_140 ew_417 ew_418 (by decide) rfl (Nat.le_of_ble_eq_true rfl) ?_
      obtain ⟨H77, eH77, E⟩ := let_some E
      refine ea_nm eH77 ?_
      obtain ⟨f78, E⟩ := gd_some E
      refine ea_putR (pc := 143) dX11_init_143 ec_11 (k := 9) (Nat.le_of_ble_eq_true rfl) rfl (Or.inr ⟨rfl, rfl, rfl, ew_446⟩) f78.1 f78.2 ?_
      obtain ⟨H80, eH80, E⟩ := let_some E
      refine ea_nm eH80 ?_
      refine ea_iconst (pc := 146) dX11_init_146 (v := 0) rfl ?_
      refine ea_istore_n (pc := 147) (lv' := [(0, vR (some a0)), (1, vI 0)]) dX11_init_147 rfl (Nat.le_of_ble_eq_true rfl) [1, 0] rfl ?_
      exact ((ih 148 (0 : Int32) H80 _ _ E).2 rfl)
    intro el
    subst el
    have E := (if_neg (by decide)).symm.trans E
    have E := (if_pos rfl).symm.trans E
    refine ea_iload_n (pc := 148) dX11_init_148 rfl 1 rfl ?_
    refine ea_bipush (pc := 149) dX11_init_149 (v := 10) rfl ?_
    refine ea_icmp_ge (pc := 151) (tgt := 173) dX11_init_151 rfl (fun c93 => ?_) (fun c93 => ?_)
    · have E := (if_pos c93).symm.trans E
      exact ea_vretO (pc := 173) dX11_init_173 rfl E
    · have E := (if_neg c93).symm.trans E
      refine ea_aload_n (pc := 154) dX11_init_154 rfl 0 rfl ?_
      obtain ⟨f81, E⟩ := gd_some E
      refine ea_getR (pc := 155) dX11_init_155 ec_11 (k := 8) (Nat.le_of_ble_eq_true rfl) rfl (Or.inl ew_445) f81.1 f81.2 rfl ?_
      refine ea_iload_n (pc := 158) dX11_init_158 rfl 1 rfl ?_
      refine ea_newO (pc := 159) dX11_init_159 ec_2 ew_415 ew_419 ew_119 ?_
      obtain ⟨H83, eH83, E⟩ := let_some E
      refine ea_nm eH83 ?_
      refine ea_dup (pc := 162) dX11_init_162 rfl ?_
      obtain ⟨z84, E⟩ := gd_some E
      refine ea_callIN (pc := 163) (d' := d - 1) (As := []) (st := [vR (some (ea_n h)), vI x1, vR (ea_r h a0 8)]) dX11_init_163 kX2_init (sX2_init (d := d - 1) (by omega) z84) (by omega) rfl (Nat.le_of_ble_eq_true rfl) ew_420 ew_421 rfl rfl ?_
      obtain ⟨H86, eH86, E⟩ := let_some E
      refine ea_nm eH86 ?_
      obtain ⟨e87, E⟩ := gd_some E
      obtain ⟨f88, E⟩ := gd_some E
      obtain ⟨z89, E⟩ := gd_some E
      obtain ⟨f91, E⟩ := gd_some E
      refine ea_deref2 e87 ?_
      refine ea_aast24 (pc := 166) dX11_init_166 f88.1 f88.2 z89 f91.1 f91.2 ?_
      obtain ⟨H92, eH92, E⟩ := let_some E
      refine ea_nm eH92 ?_
      refine ea_iinc (pc := 167) (v := 1) (lv' := [(0, vR (some a0)), (1, vI (x1 + (1 : Int32)))]) dX11_init_167 1 rfl rfl (Nat.le_of_ble_eq_true rfl) [1, 0] rfl ?_
      refine ea_goto (pc := 170) (tgt := 148) dX11_init_170 rfl ?_
      exact ((ih 148 ((x1 + (1 : Int32)) : Int32) H92 _ _ E).2 rfl)
noncomputable def qX11_init (a0 : Nat) (h : ea_H) : Option (Unit × ea_H) := gX11_init a0 1000000000 0 0 h
def okX11_init (a0 : Nat) (h : ea_H) : Prop := ∃ x, qX11_init a0 h = some x
noncomputable def wX11_init (a0 : Nat) (h : ea_H) : ea_H := ((qX11_init a0 h).getD ((), h)).2
theorem sX11_init {d : Nat} {a0 : Nat} {h : ea_H} (hd : 4 ≤ d) (K : okX11_init a0 h) : ea_Met mX11_init d [vR (some a0)] h none (wX11_init a0 h) := by
  obtain ⟨⟨x, y⟩, K⟩ := K
  unfold wX11_init
  rw [K]
  unfold qX11_init at K
  exact ea_enter rfl (Nat.le_of_ble_eq_true rfl) ((tX11_init hd 1000000000 0 0 h x y K).1 rfl)
noncomputable def gX1_begin_at32 (b0 : Nat) : Nat → Nat → Int32 → Int32 → ea_H → Option (Unit × ea_H)
  | 0, _, _, _, _ => none
  | f + 1, lbl, x1, x2, h =>
    (ea_let (ea_wi h (b0 + 32) 0 ((ea_i h (b0 + 32) 0) + (1 : Int32))) fun H2 => (ea_let (ea_wi H2 (b0 + 32) 10 ((ea_i H2 (b0 + 32) 10) + (1 : Int32))) fun H4 => (gd (vp_in x2 12) (gd (vp_in x2 12) (ea_let (ea_wi H4 (b0 + 40) (Int32.toNatClampNeg x2) ((ea_i H4 (b0 + 40) (Int32.toNatClampNeg x2)) + (1 : Int32))) fun H8 => (gd (vp_in (ea_i h (b0 + 32) 0) 120) (ea_let (ea_wi H8 (b0 + 33) (Int32.toNatClampNeg (ea_i h (b0 + 32) 0)) 0) fun H11 => (gd (vp_in (ea_i h (b0 + 32) 0) 120) (ea_let (ea_wi H11 (b0 + 34) (Int32.toNatClampNeg (ea_i h (b0 + 32) 0)) x2) fun H14 => (gd (vp_in (ea_i h (b0 + 32) 0) 120) (gd ((ea_r H14 (b0 + 31) (Int32.toNatClampNeg (ea_i h (b0 + 32) 0))) = some (Option.getD (ea_r H14 (b0 + 31) (Int32.toNatClampNeg (ea_i h (b0 + 32) 0))) 0)) (gd (((Option.getD (ea_r H14 (b0 + 31) (Int32.toNatClampNeg (ea_i h (b0 + 32) 0))) 0) < ea_n H14 ∧ ea_c H14 (Option.getD (ea_r H14 (b0 + 31) (Int32.toNatClampNeg (ea_i h (b0 + 32) 0))) 0) = 4)) (gd ((okX4_note b0 (Option.getD (ea_r H14 (b0 + 31) (Int32.toNatClampNeg (ea_i h (b0 + 32) 0))) 0) (x1 : Int32) (0 : Int32) (x2 : Int32) H14)) (ea_let (wX4_note b0 (Option.getD (ea_r H14 (b0 + 31) (Int32.toNatClampNeg (ea_i h (b0 + 32) 0))) 0) (x1 : Int32) (0 : Int32) (x2 : Int32) H14) fun H20 => (some ((), H20))))))))))))))))
theorem tX1_begin_at32 {d : Nat} {b0 : Nat} {h0 : ea_H} (hd : 4 ≤ d) : ∀ (f lbl : Nat) (x1 : Int32) (x2 : Int32) (h : ea_H) (r : Unit) (h' : ea_H), gX1_begin_at32 b0 f lbl x1 x2 h = some (r, h') → ShC b0 h → (lbl = 0 → ea_W mX1_begin d h0 none h' 0 [(0, vR (some (b0 + 32))), (1, vI x1), (2, vI x2)] [] h) := by
  intro f
  induction f with
  | zero => intro lbl x1 x2 h r h' E; cases E
  | succ f ih =>
    intro lbl x1 x2 h r h' E hs
    unfold gX1_begin_at32 at E
    intro el
    subst el
    refine ea_aload_n (pc := 0) dX1_begin_0 rfl 0 rfl ?_
    refine ea_getI (pc := 1) dX1_begin_1 ec_1 (k := 0) (Nat.le_of_ble_eq_true rfl) rfl (Or.inl ew_359) (hs.1 32 (by decide)).1 (hs.1 32 (by decide)).2.1 ?_
    refine ea_istore_n (pc := 4) (lv' := [(0, vR (some (b0 + 32))), (1, vI x1), (2, vI x2), (3, vI (ea_i h (b0 + 32) 0))]) dX1_begin_4 rfl (Nat.le_of_ble_eq_true rfl) [1, 2, 3, 0] rfl ?_
    refine ea_aload_n (pc := 5) dX1_begin_5 rfl 0 rfl ?_
    refine ea_dup (pc := 6) dX1_begin_6 rfl ?_
    refine ea_getI (pc := 7) dX1_begin_7 ec_1 (k := 0) (Nat.le_of_ble_eq_true rfl) rfl (Or.inl ew_359) (hs.1 32 (by decide)).1 (hs.1 32 (by decide)).2.1 ?_
    refine ea_iconst (pc := 10) dX1_begin_10 (v := 1) rfl ?_
    refine ea_iadd (pc := 11) dX1_begin_11 ?_
    refine ea_putI (pc := 12) dX1_begin_12 ec_1 (k := 0) (Nat.le_of_ble_eq_true rfl) rfl (Or.inl ⟨rfl, Or.inl ew_359⟩) rfl rfl (hs.1 32 (by decide)).1 (hs.1 32 (by decide)).2.1 ?_
    have hs1 : ShC b0 (ea_wi h (b0 + 32) 0 ((ea_i h (b0 + 32) 0) + (1 : Int32))) := ShC_wi hs
    obtain ⟨H2, eH2, E⟩ := let_some E
    refine ea_nm eH2 ?_
    have hsH2 : ShC b0 H2 := by rw [eH2]; exact hs1
    refine ea_aload_n (pc := 15) dX1_begin_15 rfl 0 rfl ?_
    refine ea_dup (pc := 16) dX1_begin_16 rfl ?_
    refine ea_getI (pc := 17) dX1_begin_17 ec_1 (k := 10) (Nat.le_of_ble_eq_true rfl) rfl (Or.inl ew_376) (hsH2.1 32 (by decide)).1 (hsH2.1 32 (by decide)).2.1 ?_
    refine ea_iconst (pc := 20) dX1_begin_20 (v := 1) rfl ?_
    refine ea_iadd (pc := 21) dX1_begin_21 ?_
    refine ea_putI (pc := 22) dX1_begin_22 ec_1 (k := 10) (Nat.le_of_ble_eq_true rfl) rfl (Or.inl ⟨rfl, Or.inl ew_376⟩) rfl rfl (hsH2.1 32 (by decide)).1 (hsH2.1 32 (by decide)).2.1 ?_
    have hs3 : ShC b0 (ea_wi H2 (b0 + 32) 10 ((ea_i H2 (b0 + 32) 10) + (1 : Int32))) := ShC_wi hsH2
    obtain ⟨H4, eH4, E⟩ := let_some E
    refine ea_nm eH4 ?_
    have hsH4 : ShC b0 H4 := by rw [eH4]; exact hs3
    refine ea_aload_n (pc := 25) dX1_begin_25 rfl 0 rfl ?_
    refine ea_getR (pc := 26) dX1_begin_26 ec_1 (k := 8) (Nat.le_of_ble_eq_true rfl) rfl (Or.inl ew_374) (hsH4.1 32 (by decide)).1 (hsH4.1 32 (by decide)).2.1 (hsH4.2 32 8 rfl) ?_
    refine ea_iload_n (pc := 29) dX1_begin_29 rfl 2 rfl ?_
    refine ea_dup2 (pc := 30) dX1_begin_30 rfl rfl ?_
    obtain ⟨z5, E⟩ := gd_some E
    refine ea_iald (pc := 31) dX1_begin_31 (hsH4.1 40 (by decide)).1 (hsH4.1 40 (by decide)).2.1 (ea_vpl (hsH4.1 40 (by decide)).2.2 z5) ?_
    refine ea_iconst (pc := 32) dX1_begin_32 (v := 1) rfl ?_
    refine ea_iadd (pc := 33) dX1_begin_33 ?_
    obtain ⟨z6, E⟩ := gd_some E
    refine ea_iast (pc := 34) dX1_begin_34 (hsH4.1 40 (by decide)).1 (hsH4.1 40 (by decide)).2.1 (ea_vpl (hsH4.1 40 (by decide)).2.2 z6) ?_
    have hs7 : ShC b0 (ea_wi H4 (b0 + 40) (Int32.toNatClampNeg x2) ((ea_i H4 (b0 + 40) (Int32.toNatClampNeg x2)) + (1 : Int32))) := ShC_wi hsH4
    obtain ⟨H8, eH8, E⟩ := let_some E
    refine ea_nm eH8 ?_
    have hsH8 : ShC b0 H8 := by rw [eH8]; exact hs7
    refine ea_aload_n (pc := 35) dX1_begin_35 rfl 0 rfl ?_
    refine ea_getR (pc := 36) dX1_begin_36 ec_1 (k := 1) (Nat.le_of_ble_eq_true rfl) rfl (Or.inl ew_361) (hsH8.1 32 (by decide)).1 (hsH8.1 32 (by decide)).2.1 (hsH8.2 32 1 rfl) ?_
    refine ea_iload_n (pc := 39) dX1_begin_39 rfl 3 rfl ?_
    refine ea_iconst (pc := 40) dX1_begin_40 (v := 0) rfl ?_
    obtain ⟨z9, E⟩ := gd_some E
    refine ea_iast (pc := 41) dX1_begin_41 (hsH8.1 33 (by decide)).1 (hsH8.1 33 (by decide)).2.1 (ea_vpl (hsH8.1 33 (by decide)).2.2 z9) ?_
    have hs10 : ShC b0 (ea_wi H8 (b0 + 33) (Int32.toNatClampNeg (ea_i h (b0 + 32) 0)) 0) := ShC_wi hsH8
    obtain ⟨H11, eH11, E⟩ := let_some E
    refine ea_nm eH11 ?_
    have hsH11 : ShC b0 H11 := by rw [eH11]; exact hs10
    refine ea_aload_n (pc := 42) dX1_begin_42 rfl 0 rfl ?_
    refine ea_getR (pc := 43) dX1_begin_43 ec_1 (k := 2) (Nat.le_of_ble_eq_true rfl) rfl (Or.inl ew_363) (hsH11.1 32 (by decide)).1 (hsH11.1 32 (by decide)).2.1 (hsH11.2 32 2 rfl) ?_
    refine ea_iload_n (pc := 46) dX1_begin_46 rfl 3 rfl ?_
    refine ea_iload_n (pc := 47) dX1_begin_47 rfl 2 rfl ?_
    obtain ⟨z12, E⟩ := gd_some E
    refine ea_iast (pc := 48) dX1_begin_48 (hsH11.1 34 (by decide)).1 (hsH11.1 34 (by decide)).2.1 (ea_vpl (hsH11.1 34 (by decide)).2.2 z12) ?_
    have hs13 : ShC b0 (ea_wi H11 (b0 + 34) (Int32.toNatClampNeg (ea_i h (b0 + 32) 0)) x2) := ShC_wi hsH11
    obtain ⟨H14, eH14, E⟩ := let_some E
    refine ea_nm eH14 ?_
    have hsH14 : ShC b0 H14 := by rw [eH14]; exact hs13
    refine ea_aload_n (pc := 49) dX1_begin_49 rfl 0 rfl ?_
    refine ea_getR (pc := 50) dX1_begin_50 ec_1 (k := 14) (Nat.le_of_ble_eq_true rfl) rfl (Or.inl ew_380) (hsH14.1 32 (by decide)).1 (hsH14.1 32 (by decide)).2.1 (hsH14.2 32 14 rfl) ?_
    refine ea_iload_n (pc := 53) dX1_begin_53 rfl 3 rfl ?_
    obtain ⟨z15, E⟩ := gd_some E
    refine ea_aald23 (pc := 54) dX1_begin_54 (hsH14.1 31 (by decide)).1 (hsH14.1 31 (by decide)).2.1 (ea_vpl (hsH14.1 31 (by decide)).2.2 z15) rfl ?_
    refine ea_iload_n (pc := 55) dX1_begin_55 rfl 1 rfl ?_
    refine ea_iconst (pc := 56) dX1_begin_56 (v := 0) rfl ?_
    refine ea_iload_n (pc := 57) dX1_begin_57 rfl 2 rfl ?_
    obtain ⟨e16, E⟩ := gd_some E
    obtain ⟨f17, E⟩ := gd_some E
    obtain ⟨z18, E⟩ := gd_some E
    refine ea_deref3 e16 ?_
    refine ea_callV (pc := 58) (d' := d - 1) (As := [vI x1, vI 0, vI x2]) (st := []) dX1_begin_58 kX4_note (sX4_note (d := d - 1) (by omega) hsH14 z18) (by omega) rfl (Nat.le_of_ble_eq_true rfl) ew_649 ew_650 ew_651 (ci := 4) rfl (by decide) f17.1 f17.2 ?_
    have hs19 : ShC b0 (wX4_note b0 (Option.getD (ea_r H14 (b0 + 31) (Int32.toNatClampNeg (ea_i h (b0 + 32) 0))) 0) (x1 : Int32) (0 : Int32) (x2 : Int32) H14) := shX4_note hsH14
    obtain ⟨H20, eH20, E⟩ := let_some E
    refine ea_nm eH20 ?_
    have hsH20 : ShC b0 H20 := by rw [eH20]; exact hs19
    exact ea_vretO (pc := 61) dX1_begin_61 rfl E
noncomputable def qX1_begin_at32 (b0 : Nat) (x1 : Int32) (x2 : Int32) (h : ea_H) : Option (Unit × ea_H) := gX1_begin_at32 b0 1000000000 0 x1 x2 h
def okX1_begin_at32 (b0 : Nat) (x1 : Int32) (x2 : Int32) (h : ea_H) : Prop := ∃ x, qX1_begin_at32 b0 x1 x2 h = some x
noncomputable def wX1_begin_at32 (b0 : Nat) (x1 : Int32) (x2 : Int32) (h : ea_H) : ea_H := ((qX1_begin_at32 b0 x1 x2 h).getD ((), h)).2
theorem sX1_begin_at32 {d : Nat} {b0 : Nat} {x1 : Int32} {x2 : Int32} {h : ea_H} (hd : 4 ≤ d) (hs : ShC b0 h) (K : okX1_begin_at32 b0 x1 x2 h) : ea_Met mX1_begin d [vR (some (b0 + 32)), vI x1, vI x2] h none (wX1_begin_at32 b0 x1 x2 h) := by
  obtain ⟨⟨x, y⟩, K⟩ := K
  unfold wX1_begin_at32
  rw [K]
  unfold qX1_begin_at32 at K
  exact ea_enter rfl (Nat.le_of_ble_eq_true rfl) ((tX1_begin_at32 hd 1000000000 0 x1 x2 h x y K hs) rfl)
theorem zX1_begin_at32 {b0 : Nat} : ∀ (f lbl : Nat) (x1 : Int32) (x2 : Int32) (h : ea_H) (r : Unit) (h' : ea_H), gX1_begin_at32 b0 f lbl x1 x2 h = some (r, h') → ShC b0 h → ShC b0 h' := by
  intro f
  induction f with
  | zero => intro lbl x1 x2 h r h' E; cases E
  | succ f ih =>
    intro lbl x1 x2 h r h' E hs
    unfold gX1_begin_at32 at E
    obtain ⟨H2, eH2, E⟩ := let_some E
    have hsH2 : ShC b0 H2 := by rw [eH2]; exact (ShC_wi hs)
    obtain ⟨H4, eH4, E⟩ := let_some E
    have hsH4 : ShC b0 H4 := by rw [eH4]; exact (ShC_wi hsH2)
    obtain ⟨z5, E⟩ := gd_some E
    obtain ⟨z6, E⟩ := gd_some E
    obtain ⟨H8, eH8, E⟩ := let_some E
    have hsH8 : ShC b0 H8 := by rw [eH8]; exact (ShC_wi hsH4)
    obtain ⟨z9, E⟩ := gd_some E
    obtain ⟨H11, eH11, E⟩ := let_some E
    have hsH11 : ShC b0 H11 := by rw [eH11]; exact (ShC_wi hsH8)
    obtain ⟨z12, E⟩ := gd_some E
    obtain ⟨H14, eH14, E⟩ := let_some E
    have hsH14 : ShC b0 H14 := by rw [eH14]; exact (ShC_wi hsH11)
    obtain ⟨z15, E⟩ := gd_some E
    obtain ⟨e16, E⟩ := gd_some E
    obtain ⟨f17, E⟩ := gd_some E
    obtain ⟨z18, E⟩ := gd_some E
    obtain ⟨H20, eH20, E⟩ := let_some E
    have hsH20 : ShC b0 H20 := by rw [eH20]; exact (shX4_note hsH14)
    exact ea_shO E hsH20
theorem shX1_begin_at32 {b0 : Nat} {x1 : Int32} {x2 : Int32} {h : ea_H} (hs : ShC b0 h) : ShC b0 (wX1_begin_at32 b0 x1 x2 h) := by
  unfold wX1_begin_at32
  cases K : qX1_begin_at32 b0 x1 x2 h with
  | none => exact hs
  | some x => obtain ⟨x, y⟩ := x; unfold qX1_begin_at32 at K; exact zX1_begin_at32 _ _ _ _ _ _ _ K hs
noncomputable def gX1_begin_at42 (b0 : Nat) : Nat → Nat → Int32 → Int32 → ea_H → Option (Unit × ea_H)
  | 0, _, _, _, _ => none
  | f + 1, lbl, x1, x2, h =>
    (ea_let (ea_wi h (b0 + 42) 0 ((ea_i h (b0 + 42) 0) + (1 : Int32))) fun H2 => (ea_let (ea_wi H2 (b0 + 42) 10 ((ea_i H2 (b0 + 42) 10) + (1 : Int32))) fun H4 => (gd (vp_in x2 12) (gd (vp_in x2 12) (ea_let (ea_wi H4 (b0 + 50) (Int32.toNatClampNeg x2) ((ea_i H4 (b0 + 50) (Int32.toNatClampNeg x2)) + (1 : Int32))) fun H8 => (gd (vp_in (ea_i h (b0 + 42) 0) 120) (ea_let (ea_wi H8 (b0 + 43) (Int32.toNatClampNeg (ea_i h (b0 + 42) 0)) 0) fun H11 => (gd (vp_in (ea_i h (b0 + 42) 0) 120) (ea_let (ea_wi H11 (b0 + 44) (Int32.toNatClampNeg (ea_i h (b0 + 42) 0)) x2) fun H14 => (gd (vp_in (ea_i h (b0 + 42) 0) 120) (gd ((ea_r H14 (b0 + 31) (Int32.toNatClampNeg (ea_i h (b0 + 42) 0))) = some (Option.getD (ea_r H14 (b0 + 31) (Int32.toNatClampNeg (ea_i h (b0 + 42) 0))) 0)) (gd (((Option.getD (ea_r H14 (b0 + 31) (Int32.toNatClampNeg (ea_i h (b0 + 42) 0))) 0) < ea_n H14 ∧ ea_c H14 (Option.getD (ea_r H14 (b0 + 31) (Int32.toNatClampNeg (ea_i h (b0 + 42) 0))) 0) = 4)) (gd ((okX4_note b0 (Option.getD (ea_r H14 (b0 + 31) (Int32.toNatClampNeg (ea_i h (b0 + 42) 0))) 0) (x1 : Int32) (0 : Int32) (x2 : Int32) H14)) (ea_let (wX4_note b0 (Option.getD (ea_r H14 (b0 + 31) (Int32.toNatClampNeg (ea_i h (b0 + 42) 0))) 0) (x1 : Int32) (0 : Int32) (x2 : Int32) H14) fun H20 => (some ((), H20))))))))))))))))
theorem tX1_begin_at42 {d : Nat} {b0 : Nat} {h0 : ea_H} (hd : 4 ≤ d) : ∀ (f lbl : Nat) (x1 : Int32) (x2 : Int32) (h : ea_H) (r : Unit) (h' : ea_H), gX1_begin_at42 b0 f lbl x1 x2 h = some (r, h') → ShC b0 h → (lbl = 0 → ea_W mX1_begin d h0 none h' 0 [(0, vR (some (b0 + 42))), (1, vI x1), (2, vI x2)] [] h) := by
  intro f
  induction f with
  | zero => intro lbl x1 x2 h r h' E; cases E
  | succ f ih =>
    intro lbl x1 x2 h r h' E hs
    unfold gX1_begin_at42 at E
    intro el
    subst el
    refine ea_aload_n (pc := 0) dX1_begin_0 rfl 0 rfl ?_
    refine ea_getI (pc := 1) dX1_begin_1 ec_1 (k := 0) (Nat.le_of_ble_eq_true rfl) rfl (Or.inl ew_359) (hs.1 42 (by decide)).1 (hs.1 42 (by decide)).2.1 ?_
    refine ea_istore_n (pc := 4) (lv' := [(0, vR (some (b0 + 42))), (1, vI x1), (2, vI x2), (3, vI (ea_i h (b0 + 42) 0))]) dX1_begin_4 rfl (Nat.le_of_ble_eq_true rfl) [1, 2, 3, 0] rfl ?_
    refine ea_aload_n (pc := 5) dX1_begin_5 rfl 0 rfl ?_
    refine ea_dup (pc := 6) dX1_begin_6 rfl ?_
    refine ea_getI (pc := 7) dX1_begin_7 ec_1 (k := 0) (Nat.le_of_ble_eq_true rfl) rfl (Or.inl ew_359) (hs.1 42 (by decide)).1 (hs.1 42 (by decide)).2.1 ?_
    refine ea_iconst (pc := 10) dX1_begin_10 (v := 1) rfl ?_
    refine ea_iadd (pc := 11) dX1_begin_11 ?_
    refine ea_putI (pc := 12) dX1_begin_12 ec_1 (k := 0) (Nat.le_of_ble_eq_true rfl) rfl (Or.inl ⟨rfl, Or.inl ew_359⟩) rfl rfl (hs.1 42 (by decide)).1 (hs.1 42 (by decide)).2.1 ?_
    have hs1 : ShC b0 (ea_wi h (b0 + 42) 0 ((ea_i h (b0 + 42) 0) + (1 : Int32))) := ShC_wi hs
    obtain ⟨H2, eH2, E⟩ := let_some E
    refine ea_nm eH2 ?_
    have hsH2 : ShC b0 H2 := by rw [eH2]; exact hs1
    refine ea_aload_n (pc := 15) dX1_begin_15 rfl 0 rfl ?_
    refine ea_dup (pc := 16) dX1_begin_16 rfl ?_
    refine ea_getI (pc := 17) dX1_begin_17 ec_1 (k := 10) (Nat.le_of_ble_eq_true rfl) rfl (Or.inl ew_376) (hsH2.1 42 (by decide)).1 (hsH2.1 42 (by decide)).2.1 ?_
    refine ea_iconst (pc := 20) dX1_begin_20 (v := 1) rfl ?_
    refine ea_iadd (pc := 21) dX1_begin_21 ?_
    refine ea_putI (pc := 22) dX1_begin_22 ec_1 (k := 10) (Nat.le_of_ble_eq_true rfl) rfl (Or.inl ⟨rfl, Or.inl ew_376⟩) rfl rfl (hsH2.1 42 (by decide)).1 (hsH2.1 42 (by decide)).2.1 ?_
    have hs3 : ShC b0 (ea_wi H2 (b0 + 42) 10 ((ea_i H2 (b0 + 42) 10) + (1 : Int32))) := ShC_wi hsH2
    obtain ⟨H4, eH4, E⟩ := let_some E
    refine ea_nm eH4 ?_
    have hsH4 : ShC b0 H4 := by rw [eH4]; exact hs3
    refine ea_aload_n (pc := 25) dX1_begin_25 rfl 0 rfl ?_
    refine ea_getR (pc := 26) dX1_begin_26 ec_1 (k := 8) (Nat.le_of_ble_eq_true rfl) rfl (Or.inl ew_374) (hsH4.1 42 (by decide)).1 (hsH4.1 42 (by decide)).2.1 (hsH4.2 42 8 rfl) ?_
    refine ea_iload_n (pc := 29) dX1_begin_29 rfl 2 rfl ?_
    refine ea_dup2 (pc := 30) dX1_begin_30 rfl rfl ?_
    obtain ⟨z5, E⟩ := gd_some E
    refine ea_iald (pc := 31) dX1_begin_31 (hsH4.1 50 (by decide)).1 (hsH4.1 50 (by decide)).2.1 (ea_vpl (hsH4.1 50 (by decide)).2.2 z5) ?_
    refine ea_iconst (pc := 32) dX1_begin_32 (v := 1) rfl ?_
    refine ea_iadd (pc := 33) dX1_begin_33 ?_
    obtain ⟨z6, E⟩ := gd_some E
    refine ea_iast (pc := 34) dX1_begin_34 (hsH4.1 50 (by decide)).1 (hsH4.1 50 (by decide)).2.1 (ea_vpl (hsH4.1 50 (by decide)).2.2 z6) ?_
    have hs7 : ShC b0 (ea_wi H4 (b0 + 50) (Int32.toNatClampNeg x2) ((ea_i H4 (b0 + 50) (Int32.toNatClampNeg x2)) + (1 : Int32))) := ShC_wi hsH4
    obtain ⟨H8, eH8, E⟩ := let_some E
    refine ea_nm eH8 ?_
    have hsH8 : ShC b0 H8 := by rw [eH8]; exact hs7
    refine ea_aload_n (pc := 35) dX1_begin_35 rfl 0 rfl ?_
    refine ea_getR (pc := 36) dX1_begin_36 ec_1 (k := 1) (Nat.le_of_ble_eq_true rfl) rfl (Or.inl ew_361) (hsH8.1 42 (by decide)).1 (hsH8.1 42 (by decide)).2.1 (hsH8.2 42 1 rfl) ?_
    refine ea_iload_n (pc := 39) dX1_begin_39 rfl 3 rfl ?_
    refine ea_iconst (pc := 40) dX1_begin_40 (v := 0) rfl ?_
    obtain ⟨z9, E⟩ := gd_some E
    refine ea_iast (pc := 41) dX1_begin_41 (hsH8.1 43 (by decide)).1 (hsH8.1 43 (by decide)).2.1 (ea_vpl (hsH8.1 43 (by decide)).2.2 z9) ?_
    have hs10 : ShC b0 (ea_wi H8 (b0 + 43) (Int32.toNatClampNeg (ea_i h (b0 + 42) 0)) 0) := ShC_wi hsH8
    obtain ⟨H11, eH11, E⟩ := let_some E
    refine ea_nm eH11 ?_
    have hsH11 : ShC b0 H11 := by rw [eH11]; exact hs10
    refine ea_aload_n (pc := 42) dX1_begin_42 rfl 0 rfl ?_
    refine ea_getR (pc := 43) dX1_begin_43 ec_1 (k := 2) (Nat.le_of_ble_eq_true rfl) rfl (Or.inl ew_363) (hsH11.1 42 (by decide)).1 (hsH11.1 42 (by decide)).2.1 (hsH11.2 42 2 rfl) ?_
    refine ea_iload_n (pc := 46) dX1_begin_46 rfl 3 rfl ?_
    refine ea_iload_n (pc := 47) dX1_begin_47 rfl 2 rfl ?_
    obtain ⟨z12, E⟩ := gd_some E
    refine ea_iast (pc := 48) dX1_begin_48 (hsH11.1 44 (by decide)).1 (hsH11.1 44 (by decide)).2.1 (ea_vpl (hsH11.1 44 (by decide)).2.2 z12) ?_
    have hs13 : ShC b0 (ea_wi H11 (b0 + 44) (Int32.toNatClampNeg (ea_i h (b0 + 42) 0)) x2) := ShC_wi hsH11
    obtain ⟨H14, eH14, E⟩ := let_some E
    refine ea_nm eH14 ?_
    have hsH14 : ShC b0 H14 := by rw [eH14]; exact hs13
    refine ea_aload_n (pc := 49) dX1_begin_49 rfl 0 rfl ?_
    refine ea_getR (pc := 50) dX1_begin_50 ec_1 (k := 14) (Nat.le_of_ble_eq_true rfl) rfl (Or.inl ew_380) (hsH14.1 42 (by decide)).1 (hsH14.1 42 (by decide)).2.1 (hsH14.2 42 14 rfl) ?_
    refine ea_iload_n (pc := 53) dX1_begin_53 rfl 3 rfl ?_
    obtain ⟨z15, E⟩ := gd_some E
    refine ea_aald23 (pc := 54) dX1_begin_54 (hsH14.1 31 (by decide)).1 (hsH14.1 31 (by decide)).2.1 (ea_vpl (hsH14.1 31 (by decide)).2.2 z15) rfl ?_
    refine ea_iload_n (pc := 55) dX1_begin_55 rfl 1 rfl ?_
    refine ea_iconst (pc := 56) dX1_begin_56 (v := 0) rfl ?_
    refine ea_iload_n (pc := 57) dX1_begin_57 rfl 2 rfl ?_
    obtain ⟨e16, E⟩ := gd_some E
    obtain ⟨f17, E⟩ := gd_some E
    obtain ⟨z18, E⟩ := gd_some E
    refine ea_deref3 e16 ?_
    refine ea_callV (pc := 58) (d' := d - 1) (As := [vI x1, vI 0, vI x2]) (st := []) dX1_begin_58 kX4_note (sX4_note (d := d - 1) (by omega) hsH14 z18) (by omega) rfl (Nat.le_of_ble_eq_true rfl) ew_649 ew_650 ew_651 (ci := 4) rfl (by decide) f17.1 f17.2 ?_
    have hs19 : ShC b0 (wX4_note b0 (Option.getD (ea_r H14 (b0 + 31) (Int32.toNatClampNeg (ea_i h (b0 + 42) 0))) 0) (x1 : Int32) (0 : Int32) (x2 : Int32) H14) := shX4_note hsH14
    obtain ⟨H20, eH20, E⟩ := let_some E
    refine ea_nm eH20 ?_
    have hsH20 : ShC b0 H20 := by rw [eH20]; exact hs19
    exact ea_vretO (pc := 61) dX1_begin_61 rfl E
noncomputable def qX1_begin_at42 (b0 : Nat) (x1 : Int32) (x2 : Int32) (h : ea_H) : Option (Unit × ea_H) := gX1_begin_at42 b0 1000000000 0 x1 x2 h
def okX1_begin_at42 (b0 : Nat) (x1 : Int32) (x2 : Int32) (h : ea_H) : Prop := ∃ x, qX1_begin_at42 b0 x1 x2 h = some x
noncomputable def wX1_begin_at42 (b0 : Nat) (x1 : Int32) (x2 : Int32) (h : ea_H) : ea_H := ((qX1_begin_at42 b0 x1 x2 h).getD ((), h)).2
theorem sX1_begin_at42 {d : Nat} {b0 : Nat} {x1 : Int32} {x2 : Int32} {h : ea_H} (hd : 4 ≤ d) (hs : ShC b0 h) (K : okX1_begin_at42 b0 x1 x2 h) : ea_Met mX1_begin d [vR (some (b0 + 42)), vI x1, vI x2] h none (wX1_begin_at42 b0 x1 x2 h) := by
  obtain ⟨⟨x, y⟩, K⟩ := K
  unfold wX1_begin_at42
  rw [K]
  unfold qX1_begin_at42 at K
  exact ea_enter rfl (Nat.le_of_ble_eq_true rfl) ((tX1_begin_at42 hd 1000000000 0 x1 x2 h x y K hs) rfl)
theorem zX1_begin_at42 {b0 : Nat} : ∀ (f lbl : Nat) (x1 : Int32) (x2 : Int32) (h : ea_H) (r : Unit) (h' : ea_H), gX1_begin_at42 b0 f lbl x1 x2 h = some (r, h') → ShC b0 h → ShC b0 h' := by
  intro f
  induction f with
  | zero => intro lbl x1 x2 h r h' E; cases E
  | succ f ih =>
    intro lbl x1 x2 h r h' E hs
    unfold gX1_begin_at42 at E
    obtain ⟨H2, eH2, E⟩ := let_some E
    have hsH2 : ShC b0 H2 := by rw [eH2]; exact (ShC_wi hs)
    obtain ⟨H4, eH4, E⟩ := let_some E
    have hsH4 : ShC b0 H4 := by rw [eH4]; exact (ShC_wi hsH2)
    obtain ⟨z5, E⟩ := gd_some E
    obtain ⟨z6, E⟩ := gd_some E
    obtain ⟨H8, eH8, E⟩ := let_some E
    have hsH8 : ShC b0 H8 := by rw [eH8]; exact (ShC_wi hsH4)
    obtain ⟨z9, E⟩ := gd_some E
    obtain ⟨H11, eH11, E⟩ := let_some E
    have hsH11 : ShC b0 H11 := by rw [eH11]; exact (ShC_wi hsH8)
    obtain ⟨z12, E⟩ := gd_some E
    obtain ⟨H14, eH14, E⟩ := let_some E
    have hsH14 : ShC b0 H14 := by rw [eH14]; exact (ShC_wi hsH11)
    obtain ⟨z15, E⟩ := gd_some E
    obtain ⟨e16, E⟩ := gd_some E
    obtain ⟨f17, E⟩ := gd_some E
    obtain ⟨z18, E⟩ := gd_some E
    obtain ⟨H20, eH20, E⟩ := let_some E
    have hsH20 : ShC b0 H20 := by rw [eH20]; exact (shX4_note hsH14)
    exact ea_shO E hsH20
theorem shX1_begin_at42 {b0 : Nat} {x1 : Int32} {x2 : Int32} {h : ea_H} (hs : ShC b0 h) : ShC b0 (wX1_begin_at42 b0 x1 x2 h) := by
  unfold wX1_begin_at42
  cases K : qX1_begin_at42 b0 x1 x2 h with
  | none => exact hs
  | some x => obtain ⟨x, y⟩ := x; unfold qX1_begin_at42 at K; exact zX1_begin_at42 _ _ _ _ _ _ _ K hs
noncomputable def gX1_move_at32 (b0 : Nat) : Nat → Nat → Int32 → Int32 → Int32 → Int32 → ea_H → Option (Unit × ea_H)
  | 0, _, _, _, _, _, _ => none
  | f + 1, lbl, x1, x2, x3, x4, h =>
    if lbl = 0 then (gd (vp_in x1 120) (if (ea_i h (b0 + 33) (Int32.toNatClampNeg x1)) = (0 : Int32) then (gd (vp_in x1 120) (gd (vp_in (ea_i h (b0 + 34) (Int32.toNatClampNeg x1)) 12) (gd (vp_in (ea_i h (b0 + 34) (Int32.toNatClampNeg x1)) 12) (ea_let (ea_wi h (b0 + 40) (Int32.toNatClampNeg (ea_i h (b0 + 34) (Int32.toNatClampNeg x1))) ((ea_i h (b0 + 40) (Int32.toNatClampNeg (ea_i h (b0 + 34) (Int32.toNatClampNeg x1)))) - (1 : Int32))) fun H15 => (ea_let (ea_wi H15 (b0 + 32) 10 ((ea_i H15 (b0 + 32) 10) - (1 : Int32))) fun H17 => (gX1_move_at32 b0 f 72 (x1 : Int32) (x2 : Int32) (x3 : Int32) (x4 : Int32) H17)))))) else (gd (vp_in x1 120) (if (ea_i h (b0 + 33) (Int32.toNatClampNeg x1)) = (1 : Int32) then (gd (vp_in x1 120) (gd (vp_in (ea_i h (b0 + 34) (Int32.toNatClampNeg x1)) 70) (gd (vp_in (ea_i h (b0 + 34) (Int32.toNatClampNeg x1)) 70) (ea_let (ea_wi h (b0 + 41) (Int32.toNatClampNeg (ea_i h (b0 + 34) (Int32.toNatClampNeg x1))) ((ea_i h (b0 + 41) (Int32.toNatClampNeg (ea_i h (b0 + 34) (Int32.toNatClampNeg x1)))) - (1 : Int32))) fun H7 => (ea_let (ea_wi H7 (b0 + 32) 10 ((ea_i H7 (b0 + 32) 10) - (1 : Int32))) fun H9 => (gX1_move_at32 b0 f 72 (x1 : Int32) (x2 : Int32) (x3 : Int32) (x4 : Int32) H9)))))) else (gX1_move_at32 b0 f 72 (x1 : Int32) (x2 : Int32) (x3 : Int32) (x4 : Int32) h))))) else
    if lbl = 72 then (if x3 = (0 : Int32) then (gd (vp_in x4 12) (gd (vp_in x4 12) (ea_let (ea_wi h (b0 + 40) (Int32.toNatClampNeg x4) ((ea_i h (b0 + 40) (Int32.toNatClampNeg x4)) + (1 : Int32))) fun H29 => (ea_let (ea_wi H29 (b0 + 32) 10 ((ea_i H29 (b0 + 32) 10) + (1 : Int32))) fun H31 => (gX1_move_at32 b0 f 126 (x1 : Int32) (x2 : Int32) (x3 : Int32) (x4 : Int32) H31))))) else (if x3 = (1 : Int32) then (gd (vp_in x4 70) (gd (vp_in x4 70) (ea_let (ea_wi h (b0 + 41) (Int32.toNatClampNeg x4) ((ea_i h (b0 + 41) (Int32.toNatClampNeg x4)) + (1 : Int32))) fun H22 => (ea_let (ea_wi H22 (b0 + 32) 10 ((ea_i H22 (b0 + 32) 10) + (1 : Int32))) fun H24 => (gX1_move_at32 b0 f 126 (x1 : Int32) (x2 : Int32) (x3 : Int32) (x4 : Int32) H24))))) else (gX1_move_at32 b0 f 126 (x1 : Int32) (x2 : Int32) (x3 : Int32) (x4 : Int32) h))) else
    if lbl = 126 then (gd (vp_in x1 120) (ea_let (ea_wi h (b0 + 33) (Int32.toNatClampNeg x1) x3) fun H35 => (gd (vp_in x1 120) (ea_let (ea_wi H35 (b0 + 34) (Int32.toNatClampNeg x1) x4) fun H38 => (gd (vp_in x1 120) (ea_let (ea_wi H38 (b0 + 39) (Int32.toNatClampNeg x1) x2) fun H41 => (gd (vp_in x1 120) (ea_let (ea_wi H41 (b0 + 37) (Int32.toNatClampNeg x1) 0) fun H44 => (if (ea_i H44 (b0 + 32) 15) = (0 : Int32) then (some ((), H44)) else (gd (vp_in x1 120) (gd ((ea_r H44 (b0 + 31) (Int32.toNatClampNeg x1)) = some (Option.getD (ea_r H44 (b0 + 31) (Int32.toNatClampNeg x1)) 0)) (gd (((Option.getD (ea_r H44 (b0 + 31) (Int32.toNatClampNeg x1)) 0) < ea_n H44 ∧ ea_c H44 (Option.getD (ea_r H44 (b0 + 31) (Int32.toNatClampNeg x1)) 0) = 4)) (gd ((okX4_note b0 (Option.getD (ea_r H44 (b0 + 31) (Int32.toNatClampNeg x1)) 0) (x2 : Int32) (x3 : Int32) (x4 : Int32) H44)) (ea_let (wX4_note b0 (Option.getD (ea_r H44 (b0 + 31) (Int32.toNatClampNeg x1)) 0) (x2 : Int32) (x3 : Int32) (x4 : Int32) H44) fun H50 => (some ((), H50)))))))))))))))) else none
theorem tX1_move_at32 {d : Nat} {b0 : Nat} {h0 : ea_H} (hd : 4 ≤ d) : ∀ (f lbl : Nat) (x1 : Int32) (x2 : Int32) (x3 : Int32) (x4 : Int32) (h : ea_H) (r : Unit) (h' : ea_H), gX1_move_at32 b0 f lbl x1 x2 x3 x4 h = some (r, h') → ShC b0 h → (lbl = 0 → ea_W mX1_move d h0 none h' 0 [(0, vR (some (b0 + 32))), (1, vI x1), (2, vI x2), (3, vI x3), (4, vI x4)] [] h) ∧ (lbl = 72 → ea_W mX1_move d h0 none h' 72 [(0, vR (some (b0 + 32))), (1, vI x1), (2, vI x2), (3, vI x3), (4, vI x4)] [] h) ∧ (lbl = 126 → ea_W mX1_move d h0 none h' 126 [(0, vR (some (b0 + 32))), (1, vI x1), (2, vI x2), (3, vI x3), (4, vI x4)] [] h) := by
  intro f
  induction f with
  | zero => intro lbl x1 x2 x3 x4 h r h' E; cases E
  | succ f ih =>
    intro lbl x1 x2 x3 x4 h r h' E hs
    unfold gX1_move_at32 at E
    refine ⟨?_, ?_⟩
    · intro el
      subst el
      have E := (if_pos rfl).symm.trans E
      refine ea_aload_n (pc := 0) dX1_move_0 rfl 0 rfl ?_
      refine ea_getR (pc := 1) dX1_move_1 ec_1 (k := 1) (Nat.le_of_ble_eq_true rfl) rfl (Or.inl ew_361) (hs.1 32 (by decide)).1 (hs.1 32 (by decide)).2.1 (hs.2 32 1 rfl) ?_
      refine ea_iload_n (pc := 4) dX1_move_4 rfl 1 rfl ?_
      obtain ⟨z1, E⟩ := gd_some E
      refine ea_iald (pc := 5) dX1_move_5 (hs.1 33 (by decide)).1 (hs.1 33 (by decide)).2.1 (ea_vpl (hs.1 33 (by decide)).2.2 z1) ?_
      refine ea_if_ne (pc := 6) (tgt := 37) dX1_move_6 rfl (fun c18 => ?_) (fun c18 => ?_)
      · have E := (if_neg c18).symm.trans E
        refine ea_aload_n (pc := 37) dX1_move_37 rfl 0 rfl ?_
        refine ea_getR (pc := 38) dX1_move_38 ec_1 (k := 1) (Nat.le_of_ble_eq_true rfl) rfl (Or.inl ew_361) (hs.1 32 (by decide)).1 (hs.1 32 (by decide)).2.1 (hs.2 32 1 rfl) ?_
        refine ea_iload_n (pc := 41) dX1_move_41 rfl 1 rfl ?_
        obtain ⟨z2, E⟩ := gd_some E
        refine ea_iald (pc := 42) dX1_move_42 (hs.1 33 (by decide)).1 (hs.1 33 (by decide)).2.1 (ea_vpl (hs.1 33 (by decide)).2.2 z2) ?_
        refine ea_iconst (pc := 43) dX1_move_43 (v := 1) rfl ?_
        refine ea_icmp_ne (pc := 44) (tgt := 72) dX1_move_44 rfl (fun c10 => ?_) (fun c10 => ?_)
        · have E := (if_neg c10).symm.trans E
          exact ((ih 72 (x1 : Int32) (x2 : Int32) (x3 : Int32) (x4 : Int32) h _ _ E hs).2.1 rfl)
        · have E := (if_pos c10).symm.trans E
          refine ea_aload_n (pc := 47) dX1_move_47 rfl 0 rfl ?_
          refine ea_getR (pc := 48) dX1_move_48 ec_1 (k := 9) (Nat.le_of_ble_eq_true rfl) rfl (Or.inl ew_375) (hs.1 32 (by decide)).1 (hs.1 32 (by decide)).2.1 (hs.2 32 9 rfl) ?_
          refine ea_aload_n (pc := 51) dX1_move_51 rfl 0 rfl ?_
          refine ea_getR (pc := 52) dX1_move_52 ec_1 (k := 2) (Nat.le_of_ble_eq_true rfl) rfl (Or.inl ew_363) (hs.1 32 (by decide)).1 (hs.1 32 (by decide)).2.1 (hs.2 32 2 rfl) ?_
          refine ea_iload_n (pc := 55) dX1_move_55 rfl 1 rfl ?_
          obtain ⟨z3, E⟩ := gd_some E
          refine ea_iald (pc := 56) dX1_move_56 (hs.1 34 (by decide)).1 (hs.1 34 (by decide)).2.1 (ea_vpl (hs.1 34 (by decide)).2.2 z3) ?_
          refine ea_dup2 (pc := 57) dX1_move_57 rfl rfl ?_
          obtain ⟨z4, E⟩ := gd_some E
          refine ea_iald (pc := 58) dX1_move_58 (hs.1 41 (by decide)).1 (hs.1 41 (by decide)).2.1 (ea_vpl (hs.1 41 (by decide)).2.2 z4) ?_
          refine ea_iconst (pc := 59) dX1_move_59 (v := 1) rfl ?_
          refine ea_isub (pc := 60) dX1_move_60 ?_
          obtain ⟨z5, E⟩ := gd_some E
          refine ea_iast (pc := 61) dX1_move_61 (hs.1 41 (by decide)).1 (hs.1 41 (by decide)).2.1 (ea_vpl (hs.1 41 (by decide)).2.2 z5) ?_
          have hs6 : ShC b0 (ea_wi h (b0 + 41) (Int32.toNatClampNeg (ea_i h (b0 + 34) (Int32.toNatClampNeg x1))) ((ea_i h (b0 + 41) (Int32.toNatClampNeg (ea_i h (b0 + 34) (Int32.toNatClampNeg x1)))) - (1 : Int32))) := ShC_wi hs
          obtain ⟨H7, eH7, E⟩ := let_some E
          refine ea_nm eH7 ?_
          have hsH7 : ShC b0 H7 := by rw [eH7]; exact hs6
          refine ea_aload_n (pc := 62) dX1_move_62 rfl 0 rfl ?_
          refine ea_dup (pc := 63) dX1_move_63 rfl ?_
          refine ea_getI (pc := 64) dX1_move_64 ec_1 (k := 10) (Nat.le_of_ble_eq_true rfl) rfl (Or.inl ew_376) (hsH7.1 32 (by decide)).1 (hsH7.1 32 (by decide)).2.1 ?_
          refine ea_iconst (pc := 67) dX1_move_67 (v := 1) rfl ?_
          refine ea_isub (pc := 68) dX1_move_68 ?_
          refine ea_putI (pc := 69) dX1_move_69 ec_1 (k := 10) (Nat.le_of_ble_eq_true rfl) rfl (Or.inl ⟨rfl, Or.inl ew_376⟩) rfl rfl (hsH7.1 32 (by decide)).1 (hsH7.1 32 (by decide)).2.1 ?_
          have hs8 : ShC b0 (ea_wi H7 (b0 + 32) 10 ((ea_i H7 (b0 + 32) 10) - (1 : Int32))) := ShC_wi hsH7
          obtain ⟨H9, eH9, E⟩ := let_some E
          refine ea_nm eH9 ?_
          have hsH9 : ShC b0 H9 := by rw [eH9]; exact hs8
          exact ((ih 72 (x1 : Int32) (x2 : Int32) (x3 : Int32) (x4 : Int32) H9 _ _ E hsH9).2.1 rfl)
      · have E := (if_pos c18).symm.trans E
        refine ea_aload_n (pc := 9) dX1_move_9 rfl 0 rfl ?_
        refine ea_getR (pc := 10) dX1_move_10 ec_1 (k := 8) (Nat.le_of_ble_eq_true rfl) rfl (Or.inl ew_374) (hs.1 32 (by decide)).1 (hs.1 32 (by decide)).2.1 (hs.2 32 8 rfl) ?_
        refine ea_aload_n (pc := 13) dX1_move_13 rfl 0 rfl ?_
        refine ea_getR (pc := 14) dX1_move_14 ec_1 (k := 2) (Nat.le_of_ble_eq_true rfl) rfl (Or.inl ew_363) (hs.1 32 (by decide)).1 (hs.1 32 (by decide)).2.1 (hs.2 32 2 rfl) ?_
        refine ea_iload_n (pc := 17) dX1_move_17 rfl 1 rfl ?_
        obtain ⟨z11, E⟩ := gd_some E
        refine ea_iald (pc := 18) dX1_move_18 (hs.1 34 (by decide)).1 (hs.1 34 (by decide)).2.1 (ea_vpl (hs.1 34 (by decide)).2.2 z11) ?_
        refine ea_dup2 (pc := 19) dX1_move_19 rfl rfl ?_
        obtain ⟨z12, E⟩ := gd_some E
        refine ea_iald (pc := 20) dX1_move_20 (hs.1 40 (by decide)).1 (hs.1 40 (by decide)).2.1 (ea_vpl (hs.1 40 (by decide)).2.2 z12) ?_
        refine ea_iconst (pc := 21) dX1_move_21 (v := 1) rfl ?_
        refine ea_isub (pc := 22) dX1_move_22 ?_
        obtain ⟨z13, E⟩ := gd_some E
        refine ea_iast (pc := 23) dX1_move_23 (hs.1 40 (by decide)).1 (hs.1 40 (by decide)).2.1 (ea_vpl (hs.1 40 (by decide)).2.2 z13) ?_
        have hs14 : ShC b0 (ea_wi h (b0 + 40) (Int32.toNatClampNeg (ea_i h (b0 + 34) (Int32.toNatClampNeg x1))) ((ea_i h (b0 + 40) (Int32.toNatClampNeg (ea_i h (b0 + 34) (Int32.toNatClampNeg x1)))) - (1 : Int32))) := ShC_wi hs
        obtain ⟨H15, eH15, E⟩ := let_some E
        refine ea_nm eH15 ?_
        have hsH15 : ShC b0 H15 := by rw [eH15]; exact hs14
        refine ea_aload_n (pc := 24) dX1_move_24 rfl 0 rfl ?_
        refine ea_dup (pc := 25) dX1_move_25 rfl ?_
        refine ea_getI (pc := 26) dX1_move_26 ec_1 (k := 10) (Nat.le_of_ble_eq_true rfl) rfl (Or.inl ew_376) (hsH15.1 32 (by decide)).1 (hsH15.1 32 (by decide)).2.1 ?_
        refine ea_iconst (pc := 29) dX1_move_29 (v := 1) rfl ?_
        refine ea_isub (pc := 30) dX1_move_30 ?_
        refine ea_putI (pc := 31) dX1_move_31 ec_1 (k := 10) (Nat.le_of_ble_eq_true rfl) rfl (Or.inl ⟨rfl, Or.inl ew_376⟩) rfl rfl (hsH15.1 32 (by decide)).1 (hsH15.1 32 (by decide)).2.1 ?_
        have hs16 : ShC b0 (ea_wi H15 (b0 + 32) 10 ((ea_i H15 (b0 + 32) 10) - (1 : Int32))) := ShC_wi hsH15
        obtain ⟨H17, eH17, E⟩ := let_some E
        refine ea_nm eH17 ?_
        have hsH17 : ShC b0 H17 := by rw [eH17]; exact hs16
        refine ea_goto (pc := 34) (tgt := 72) dX1_move_34 rfl ?_
        exact ((ih 72 (x1 : Int32) (x2 : Int32) (x3 : Int32) (x4 : Int32) H17 _ _ E hsH17).2.1 rfl)
    refine ⟨?_, ?_⟩
    · intro el
      subst el
      have E := (if_neg (by decide)).symm.trans E
      have E := (if_pos rfl).symm.trans E
      refine ea_iload_n (pc := 72) dX1_move_72 rfl 3 rfl ?_
      refine ea_if_ne (pc := 73) (tgt := 100) dX1_move_73 rfl (fun c32 => ?_) (fun c32 => ?_)
      · have E := (if_neg c32).symm.trans E
        refine ea_iload_n (pc := 100) dX1_move_100 rfl 3 rfl ?_
        refine ea_iconst (pc := 101) dX1_move_101 (v := 1) rfl ?_
        refine ea_icmp_ne (pc := 102) (tgt := 126) dX1_move_102 rfl (fun c25 => ?_) (fun c25 => ?_)
        · have E := (if_neg c25).symm.trans E
          exact ((ih 126 (x1 : Int32) (x2 : Int32) (x3 : Int32) (x4 : Int32) h _ _ E hs).2.2 rfl)
        · have E := (if_pos c25).symm.trans E
          refine ea_aload_n (pc := 105) dX1_move_105 rfl 0 rfl ?_
          refine ea_getR (pc := 106) dX1_move_106 ec_1 (k := 9) (Nat.le_of_ble_eq_true rfl) rfl (Or.inl ew_375) (hs.1 32 (by decide)).1 (hs.1 32 (by decide)).2.1 (hs.2 32 9 rfl) ?_
          refine ea_iload (pc := 109) dX1_move_109 4 rfl ?_
          refine ea_dup2 (pc := 111) dX1_move_111 rfl rfl ?_
          obtain ⟨z19, E⟩ := gd_some E
          refine ea_iald (pc := 112) dX1_move_112 (hs.1 41 (by decide)).1 (hs.1 41 (by decide)).2.1 (ea_vpl (hs.1 41 (by decide)).2.2 z19) ?_
          refine ea_iconst (pc := 113) dX1_move_113 (v := 1) rfl ?_
          refine ea_iadd (pc := 114) dX1_move_114 ?_
          obtain ⟨z20, E⟩ := gd_some E
          refine ea_iast (pc := 115) dX1_move_115 (hs.1 41 (by decide)).1 (hs.1 41 (by decide)).2.1 (ea_vpl (hs.1 41 (by decide)).2.2 z20) ?_
          have hs21 : ShC b0 (ea_wi h (b0 + 41) (Int32.toNatClampNeg x4) ((ea_i h (b0 + 41) (Int32.toNatClampNeg x4)) + (1 : Int32))) := ShC_wi hs
          obtain ⟨H22, eH22, E⟩ := let_some E
          refine ea_nm eH22 ?_
          have hsH22 : ShC b0 H22 := by rw [eH22]; exact hs21
          refine ea_aload_n (pc := 116) dX1_move_116 rfl 0 rfl ?_
          refine ea_dup (pc := 117) dX1_move_117 rfl ?_
          refine ea_getI (pc := 118) dX1_move_118 ec_1 (k := 10) (Nat.le_of_ble_eq_true rfl) rfl (Or.inl ew_376) (hsH22.1 32 (by decide)).1 (hsH22.1 32 (by decide)).2.1 ?_
          refine ea_iconst (pc := 121) dX1_move_121 (v := 1) rfl ?_
          refine ea_iadd (pc := 122) dX1_move_122 ?_
          refine ea_putI (pc := 123) dX1_move_123 ec_1 (k := 10) (Nat.le_of_ble_eq_true rfl) rfl (Or.inl ⟨rfl, Or.inl ew_376⟩) rfl rfl (hsH22.1 32 (by decide)).1 (hsH22.1 32 (by decide)).2.1 ?_
          have hs23 : ShC b0 (ea_wi H22 (b0 + 32) 10 ((ea_i H22 (b0 + 32) 10) + (1 : Int32))) := ShC_wi hsH22
          obtain ⟨H24, eH24, E⟩ := let_some E
          refine ea_nm eH24 ?_
          have hsH24 : ShC b0 H24 := by rw [eH24]; exact hs23
          exact ((ih 126 (x1 : Int32) (x2 : Int32) (x3 : Int32) (x4 : Int32) H24 _ _ E hsH24).2.2 rfl)
      · have E := (if_pos c32).symm.trans E
        refine ea_aload_n (pc := 76) dX1_move_76 rfl 0 rfl ?_
        refine ea_getR (pc := 77) dX1_move_77 ec_1 (k := 8) (Nat.le_of_ble_eq_true rfl) rfl (Or.inl ew_374) (hs.1 32 (by decide)).1 (hs.1 32 (by decide)).2.1 (hs.2 32 8 rfl) ?_
        refine ea_iload (pc := 80) dX1_move_80 4 rfl ?_
        refine ea_dup2 (pc := 82) dX1_move_82 rfl rfl ?_
        obtain ⟨z26, E⟩ := gd_some E
        refine ea_iald (pc := 83) dX1_move_83 (hs.1 40 (by decide)).1 (hs.1 40 (by decide)).2.1 (ea_vpl (hs.1 40 (by decide)).2.2 z26) ?_
        refine ea_iconst (pc := 84) dX1_move_84 (v := 1) rfl ?_
        refine ea_iadd (pc := 85) dX1_move_85 ?_
        obtain ⟨z27, E⟩ := gd_some E
        refine ea_iast (pc := 86) dX1_move_86 (hs.1 40 (by decide)).1 (hs.1 40 (by decide)).2.1 (ea_vpl (hs.1 40 (by decide)).2.2 z27) ?_
        have hs28 : ShC b0 (ea_wi h (b0 + 40) (Int32.toNatClampNeg x4) ((ea_i h (b0 + 40) (Int32.toNatClampNeg x4)) + (1 : Int32))) := ShC_wi hs
        obtain ⟨H29, eH29, E⟩ := let_some E
        refine ea_nm eH29 ?_
        have hsH29 : ShC b0 H29 := by rw [eH29]; exact hs28
        refine ea_aload_n (pc := 87) dX1_move_87 rfl 0 rfl ?_
        refine ea_dup (pc := 88) dX1_move_88 rfl ?_
        refine ea_getI (pc := 89) dX1_move_89 ec_1 (k := 10) (Nat.le_of_ble_eq_true rfl) rfl (Or.inl ew_376) (hsH29.1 32 (by decide)).1 (hsH29.1 32 (by decide)).2.1 ?_
        refine ea_iconst (pc := 92) dX1_move_92 (v := 1) rfl ?_
        refine ea_iadd (pc := 93) dX1_move_93 ?_
        refine ea_putI (pc := 94) dX1_move_94 ec_1 (k := 10) (Nat.le_of_ble_eq_true rfl) rfl (Or.inl ⟨rfl, Or.inl ew_376⟩) rfl rfl (hsH29.1 32 (by decide)).1 (hsH29.1 32 (by decide)).2.1 ?_
        have hs30 : ShC b0 (ea_wi H29 (b0 + 32) 10 ((ea_i H29 (b0 + 32) 10) + (1 : Int32))) := ShC_wi hsH29
        obtain ⟨H31, eH31, E⟩ := let_some E
        refine ea_nm eH31 ?_
        have hsH31 : ShC b0 H31 := by rw [eH31]; exact hs30
        refine ea_goto (pc := 97) (tgt := 126) dX1_move_97 rfl ?_
        exact ((ih 126 (x1 : Int32) (x2 : Int32) (x3 : Int32) (x4 : Int32) H31 _ _ E hsH31).2.2 rfl)
    intro el
    subst el
    have E := (if_neg (by decide)).symm.trans E
    have E := (if_neg (by decide)).symm.trans E
    have E := (if_pos rfl).symm.trans E
    refine ea_aload_n (pc := 126) dX1_move_126 rfl 0 rfl ?_
    refine ea_getR (pc := 127) dX1_move_127 ec_1 (k := 1) (Nat.le_of_ble_eq_true rfl) rfl (Or.inl ew_361) (hs.1 32 (by decide)).1 (hs.1 32 (by decide)).2.1 (hs.2 32 1 rfl) ?_
    refine ea_iload_n (pc := 130) dX1_move_130 rfl 1 rfl ?_
    refine ea_iload_n (pc := 131) dX1_move_131 rfl 3 rfl ?_
    obtain ⟨z33, E⟩ := gd_some E
    refine ea_iast (pc := 132) dX1_move_132 (hs.1 33 (by decide)).1 (hs.1 33 (by decide)).2.1 (ea_vpl (hs.1 33 (by decide)).2.2 z33) ?_
    have hs34 : ShC b0 (ea_wi h (b0 + 33) (Int32.toNatClampNeg x1) x3) := ShC_wi hs
    obtain ⟨H35, eH35, E⟩ := let_some E
    refine ea_nm eH35 ?_
    have hsH35 : ShC b0 H35 := by rw [eH35]; exact hs34
    refine ea_aload_n (pc := 133) dX1_move_133 rfl 0 rfl ?_
    refine ea_getR (pc := 134) dX1_move_134 ec_1 (k := 2) (Nat.le_of_ble_eq_true rfl) rfl (Or.inl ew_363) (hsH35.1 32 (by decide)).1 (hsH35.1 32 (by decide)).2.1 (hsH35.2 32 2 rfl) ?_
    refine ea_iload_n (pc := 137) dX1_move_137 rfl 1 rfl ?_
    refine ea_iload (pc := 138) dX1_move_138 4 rfl ?_
    obtain ⟨z36, E⟩ := gd_some E
    refine ea_iast (pc := 140) dX1_move_140 (hsH35.1 34 (by decide)).1 (hsH35.1 34 (by decide)).2.1 (ea_vpl (hsH35.1 34 (by decide)).2.2 z36) ?_
    have hs37 : ShC b0 (ea_wi H35 (b0 + 34) (Int32.toNatClampNeg x1) x4) := ShC_wi hsH35
    obtain ⟨H38, eH38, E⟩ := let_some E
    refine ea_nm eH38 ?_
    have hsH38 : ShC b0 H38 := by rw [eH38]; exact hs37
    refine ea_aload_n (pc := 141) dX1_move_141 rfl 0 rfl ?_
    refine ea_getR (pc := 142) dX1_move_142 ec_1 (k := 7) (Nat.le_of_ble_eq_true rfl) rfl (Or.inl ew_373) (hsH38.1 32 (by decide)).1 (hsH38.1 32 (by decide)).2.1 (hsH38.2 32 7 rfl) ?_
    refine ea_iload_n (pc := 145) dX1_move_145 rfl 1 rfl ?_
    refine ea_iload_n (pc := 146) dX1_move_146 rfl 2 rfl ?_
    obtain ⟨z39, E⟩ := gd_some E
    refine ea_iast (pc := 147) dX1_move_147 (hsH38.1 39 (by decide)).1 (hsH38.1 39 (by decide)).2.1 (ea_vpl (hsH38.1 39 (by decide)).2.2 z39) ?_
    have hs40 : ShC b0 (ea_wi H38 (b0 + 39) (Int32.toNatClampNeg x1) x2) := ShC_wi hsH38
    obtain ⟨H41, eH41, E⟩ := let_some E
    refine ea_nm eH41 ?_
    have hsH41 : ShC b0 H41 := by rw [eH41]; exact hs40
    refine ea_aload_n (pc := 148) dX1_move_148 rfl 0 rfl ?_
    refine ea_getR (pc := 149) dX1_move_149 ec_1 (k := 5) (Nat.le_of_ble_eq_true rfl) rfl (Or.inl ew_369) (hsH41.1 32 (by decide)).1 (hsH41.1 32 (by decide)).2.1 (hsH41.2 32 5 rfl) ?_
    refine ea_iload_n (pc := 152) dX1_move_152 rfl 1 rfl ?_
    refine ea_iconst (pc := 153) dX1_move_153 (v := 0) rfl ?_
    obtain ⟨z42, E⟩ := gd_some E
    refine ea_zast (pc := 154) dX1_move_154 (y := 0) (ea_bn (Or.inl rfl)) (hsH41.1 37 (by decide)).1 (hsH41.1 37 (by decide)).2.1 (ea_vpl (hsH41.1 37 (by decide)).2.2 z42) ?_
    have hs43 : ShC b0 (ea_wi H41 (b0 + 37) (Int32.toNatClampNeg x1) 0) := ShC_wi hsH41
    obtain ⟨H44, eH44, E⟩ := let_some E
    refine ea_nm eH44 ?_
    have hsH44 : ShC b0 H44 := by rw [eH44]; exact hs43
    refine ea_aload_n (pc := 155) dX1_move_155 rfl 0 rfl ?_
    refine ea_getI (pc := 156) dX1_move_156 ec_1 (k := 15) (Nat.le_of_ble_eq_true rfl) rfl (Or.inl ew_381) (hsH44.1 32 (by decide)).1 (hsH44.1 32 (by decide)).2.1 ?_
    refine ea_if_eq (pc := 159) (tgt := 175) dX1_move_159 rfl (fun c51 => ?_) (fun c51 => ?_)
    · have E := (if_pos c51).symm.trans E
      exact ea_vretO (pc := 175) dX1_move_175 rfl E
    · have E := (if_neg c51).symm.trans E
      refine ea_aload_n (pc := 162) dX1_move_162 rfl 0 rfl ?_
      refine ea_getR (pc := 163) dX1_move_163 ec_1 (k := 14) (Nat.le_of_ble_eq_true rfl) rfl (Or.inl ew_380) (hsH44.1 32 (by decide)).1 (hsH44.1 32 (by decide)).2.1 (hsH44.2 32 14 rfl) ?_
      refine ea_iload_n (pc := 166) dX1_move_166 rfl 1 rfl ?_
      obtain ⟨z45, E⟩ := gd_some E
      refine ea_aald23 (pc := 167) dX1_move_167 (hsH44.1 31 (by decide)).1 (hsH44.1 31 (by decide)).2.1 (ea_vpl (hsH44.1 31 (by decide)).2.2 z45) rfl ?_
      refine ea_iload_n (pc := 168) dX1_move_168 rfl 2 rfl ?_
      refine ea_iload_n (pc := 169) dX1_move_169 rfl 3 rfl ?_
      refine ea_iload (pc := 170) dX1_move_170 4 rfl ?_
      obtain ⟨e46, E⟩ := gd_some E
      obtain ⟨f47, E⟩ := gd_some E
      obtain ⟨z48, E⟩ := gd_some E
      refine ea_deref3 e46 ?_
      refine ea_callV (pc := 172) (d' := d - 1) (As := [vI x2, vI x3, vI x4]) (st := []) dX1_move_172 kX4_note (sX4_note (d := d - 1) (by omega) hsH44 z48) (by omega) rfl (Nat.le_of_ble_eq_true rfl) ew_649 ew_650 ew_651 (ci := 4) rfl (by decide) f47.1 f47.2 ?_
      have hs49 : ShC b0 (wX4_note b0 (Option.getD (ea_r H44 (b0 + 31) (Int32.toNatClampNeg x1)) 0) (x2 : Int32) (x3 : Int32) (x4 : Int32) H44) := shX4_note hsH44
      obtain ⟨H50, eH50, E⟩ := let_some E
      refine ea_nm eH50 ?_
      have hsH50 : ShC b0 H50 := by rw [eH50]; exact hs49
      exact ea_vretO (pc := 175) dX1_move_175 rfl E
noncomputable def qX1_move_at32 (b0 : Nat) (x1 : Int32) (x2 : Int32) (x3 : Int32) (x4 : Int32) (h : ea_H) : Option (Unit × ea_H) := gX1_move_at32 b0 1000000000 0 x1 x2 x3 x4 h
def okX1_move_at32 (b0 : Nat) (x1 : Int32) (x2 : Int32) (x3 : Int32) (x4 : Int32) (h : ea_H) : Prop := ∃ x, qX1_move_at32 b0 x1 x2 x3 x4 h = some x
noncomputable def wX1_move_at32 (b0 : Nat) (x1 : Int32) (x2 : Int32) (x3 : Int32) (x4 : Int32) (h : ea_H) : ea_H := ((qX1_move_at32 b0 x1 x2 x3 x4 h).getD ((), h)).2
theorem sX1_move_at32 {d : Nat} {b0 : Nat} {x1 : Int32} {x2 : Int32} {x3 : Int32} {x4 : Int32} {h : ea_H} (hd : 4 ≤ d) (hs : ShC b0 h) (K : okX1_move_at32 b0 x1 x2 x3 x4 h) : ea_Met mX1_move d [vR (some (b0 + 32)), vI x1, vI x2, vI x3, vI x4] h none (wX1_move_at32 b0 x1 x2 x3 x4 h) := by
  obtain ⟨⟨x, y⟩, K⟩ := K
  unfold wX1_move_at32
  rw [K]
  unfold qX1_move_at32 at K
  exact ea_enter rfl (Nat.le_of_ble_eq_true rfl) ((tX1_move_at32 hd 1000000000 0 x1 x2 x3 x4 h x y K hs).1 rfl)
theorem zX1_move_at32 {b0 : Nat} : ∀ (f lbl : Nat) (x1 : Int32) (x2 : Int32) (x3 : Int32) (x4 : Int32) (h : ea_H) (r : Unit) (h' : ea_H), gX1_move_at32 b0 f lbl x1 x2 x3 x4 h = some (r, h') → ShC b0 h → ShC b0 h' := by
  intro f
  induction f with
  | zero => intro lbl x1 x2 x3 x4 h r h' E; cases E
  | succ f ih =>
    intro lbl x1 x2 x3 x4 h r h' E hs
    unfold gX1_move_at32 at E
    by_cases el0 : lbl = 0
    · have E := (if_pos el0).symm.trans E
      obtain ⟨z1, E⟩ := gd_some E
      by_cases c18 : (ea_i h (b0 + 33) (Int32.toNatClampNeg x1)) = (0 : Int32)
      · have E := (if_pos c18).symm.trans E
        obtain ⟨z11, E⟩ := gd_some E
        obtain ⟨z12, E⟩ := gd_some E
        obtain ⟨z13, E⟩ := gd_some E
        obtain ⟨H15, eH15, E⟩ := let_some E
        have hsH15 : ShC b0 H15 := by rw [eH15]; exact (ShC_wi hs)
        obtain ⟨H17, eH17, E⟩ := let_some E
        have hsH17 : ShC b0 H17 := by rw [eH17]; exact (ShC_wi hsH15)
        exact ih 72 (x1 : Int32) (x2 : Int32) (x3 : Int32) (x4 : Int32) H17 _ _ E hsH17
      have E := (if_neg c18).symm.trans E
      obtain ⟨z2, E⟩ := gd_some E
      by_cases c10 : (ea_i h (b0 + 33) (Int32.toNatClampNeg x1)) = (1 : Int32)
      · have E := (if_pos c10).symm.trans E
        obtain ⟨z3, E⟩ := gd_some E
        obtain ⟨z4, E⟩ := gd_some E
        obtain ⟨z5, E⟩ := gd_some E
        obtain ⟨H7, eH7, E⟩ := let_some E
        have hsH7 : ShC b0 H7 := by rw [eH7]; exact (ShC_wi hs)
        obtain ⟨H9, eH9, E⟩ := let_some E
        have hsH9 : ShC b0 H9 := by rw [eH9]; exact (ShC_wi hsH7)
        exact ih 72 (x1 : Int32) (x2 : Int32) (x3 : Int32) (x4 : Int32) H9 _ _ E hsH9
      have E := (if_neg c10).symm.trans E
      exact ih 72 (x1 : Int32) (x2 : Int32) (x3 : Int32) (x4 : Int32) h _ _ E hs
    have E := (if_neg el0).symm.trans E
    by_cases el1 : lbl = 72
    · have E := (if_pos el1).symm.trans E
      by_cases c32 : x3 = (0 : Int32)
      · have E := (if_pos c32).symm.trans E
        obtain ⟨z26, E⟩ := gd_some E
        obtain ⟨z27, E⟩ := gd_some E
        obtain ⟨H29, eH29, E⟩ := let_some E
        have hsH29 : ShC b0 H29 := by rw [eH29]; exact (ShC_wi hs)
        obtain ⟨H31, eH31, E⟩ := let_some E
        have hsH31 : ShC b0 H31 := by rw [eH31]; exact (ShC_wi hsH29)
        exact ih 126 (x1 : Int32) (x2 : Int32) (x3 : Int32) (x4 : Int32) H31 _ _ E hsH31
      have E := (if_neg c32).symm.trans E
      by_cases c25 : x3 = (1 : Int32)
      · have E := (if_pos c25).symm.trans E
        obtain ⟨z19, E⟩ := gd_some E
        obtain ⟨z20, E⟩ := gd_some E
        obtain ⟨H22, eH22, E⟩ := let_some E
        have hsH22 : ShC b0 H22 := by rw [eH22]; exact (ShC_wi hs)
        obtain ⟨H24, eH24, E⟩ := let_some E
        have hsH24 : ShC b0 H24 := by rw [eH24]; exact (ShC_wi hsH22)
        exact ih 126 (x1 : Int32) (x2 : Int32) (x3 : Int32) (x4 : Int32) H24 _ _ E hsH24
      have E := (if_neg c25).symm.trans E
      exact ih 126 (x1 : Int32) (x2 : Int32) (x3 : Int32) (x4 : Int32) h _ _ E hs
    have E := (if_neg el1).symm.trans E
    by_cases el2 : lbl = 126
    · have E := (if_pos el2).symm.trans E
      obtain ⟨z33, E⟩ := gd_some E
      obtain ⟨H35, eH35, E⟩ := let_some E
      have hsH35 : ShC b0 H35 := by rw [eH35]; exact (ShC_wi hs)
      obtain ⟨z36, E⟩ := gd_some E
      obtain ⟨H38, eH38, E⟩ := let_some E
      have hsH38 : ShC b0 H38 := by rw [eH38]; exact (ShC_wi hsH35)
      obtain ⟨z39, E⟩ := gd_some E
      obtain ⟨H41, eH41, E⟩ := let_some E
      have hsH41 : ShC b0 H41 := by rw [eH41]; exact (ShC_wi hsH38)
      obtain ⟨z42, E⟩ := gd_some E
      obtain ⟨H44, eH44, E⟩ := let_some E
      have hsH44 : ShC b0 H44 := by rw [eH44]; exact (ShC_wi hsH41)
      by_cases c51 : (ea_i H44 (b0 + 32) 15) = (0 : Int32)
      · have E := (if_pos c51).symm.trans E
        exact ea_shO E hsH44
      have E := (if_neg c51).symm.trans E
      obtain ⟨z45, E⟩ := gd_some E
      obtain ⟨e46, E⟩ := gd_some E
      obtain ⟨f47, E⟩ := gd_some E
      obtain ⟨z48, E⟩ := gd_some E
      obtain ⟨H50, eH50, E⟩ := let_some E
      have hsH50 : ShC b0 H50 := by rw [eH50]; exact (shX4_note hsH44)
      exact ea_shO E hsH50
    have E := (if_neg el2).symm.trans E
    cases E
theorem shX1_move_at32 {b0 : Nat} {x1 : Int32} {x2 : Int32} {x3 : Int32} {x4 : Int32} {h : ea_H} (hs : ShC b0 h) : ShC b0 (wX1_move_at32 b0 x1 x2 x3 x4 h) := by
  unfold wX1_move_at32
  cases K : qX1_move_at32 b0 x1 x2 x3 x4 h with
  | none => exact hs
  | some x => obtain ⟨x, y⟩ := x; unfold qX1_move_at32 at K; exact zX1_move_at32 _ _ _ _ _ _ _ _ _ K hs
noncomputable def gX1_move_at42 (b0 : Nat) : Nat → Nat → Int32 → Int32 → Int32 → Int32 → ea_H → Option (Unit × ea_H)
  | 0, _, _, _, _, _, _ => none
  | f + 1, lbl, x1, x2, x3, x4, h =>
    if lbl = 0 then (gd (vp_in x1 120) (if (ea_i h (b0 + 43) (Int32.toNatClampNeg x1)) = (0 : Int32) then (gd (vp_in x1 120) (gd (vp_in (ea_i h (b0 + 44) (Int32.toNatClampNeg x1)) 12) (gd (vp_in (ea_i h (b0 + 44) (Int32.toNatClampNeg x1)) 12) (ea_let (ea_wi h (b0 + 50) (Int32.toNatClampNeg (ea_i h (b0 + 44) (Int32.toNatClampNeg x1))) ((ea_i h (b0 + 50) (Int32.toNatClampNeg (ea_i h (b0 + 44) (Int32.toNatClampNeg x1)))) - (1 : Int32))) fun H15 => (ea_let (ea_wi H15 (b0 + 42) 10 ((ea_i H15 (b0 + 42) 10) - (1 : Int32))) fun H17 => (gX1_move_at42 b0 f 72 (x1 : Int32) (x2 : Int32) (x3 : Int32) (x4 : Int32) H17)))))) else (gd (vp_in x1 120) (if (ea_i h (b0 + 43) (Int32.toNatClampNeg x1)) = (1 : Int32) then (gd (vp_in x1 120) (gd (vp_in (ea_i h (b0 + 44) (Int32.toNatClampNeg x1)) 70) (gd (vp_in (ea_i h (b0 + 44) (Int32.toNatClampNeg x1)) 70) (ea_let (ea_wi h (b0 + 51) (Int32.toNatClampNeg (ea_i h (b0 + 44) (Int32.toNatClampNeg x1))) ((ea_i h (b0 + 51) (Int32.toNatClampNeg (ea_i h (b0 + 44) (Int32.toNatClampNeg x1)))) - (1 : Int32))) fun H7 => (ea_let (ea_wi H7 (b0 + 42) 10 ((ea_i H7 (b0 + 42) 10) - (1 : Int32))) fun H9 => (gX1_move_at42 b0 f 72 (x1 : Int32) (x2 : Int32) (x3 : Int32) (x4 : Int32) H9)))))) else (gX1_move_at42 b0 f 72 (x1 : Int32) (x2 : Int32) (x3 : Int32) (x4 : Int32) h))))) else
    if lbl = 72 then (if x3 = (0 : Int32) then (gd (vp_in x4 12) (gd (vp_in x4 12) (ea_let (ea_wi h (b0 + 50) (Int32.toNatClampNeg x4) ((ea_i h (b0 + 50) (Int32.toNatClampNeg x4)) + (1 : Int32))) fun H29 => (ea_let (ea_wi H29 (b0 + 42) 10 ((ea_i H29 (b0 + 42) 10) + (1 : Int32))) fun H31 => (gX1_move_at42 b0 f 126 (x1 : Int32) (x2 : Int32) (x3 : Int32) (x4 : Int32) H31))))) else (if x3 = (1 : Int32) then (gd (vp_in x4 70) (gd (vp_in x4 70) (ea_let (ea_wi h (b0 + 51) (Int32.toNatClampNeg x4) ((ea_i h (b0 + 51) (Int32.toNatClampNeg x4)) + (1 : Int32))) fun H22 => (ea_let (ea_wi H22 (b0 + 42) 10 ((ea_i H22 (b0 + 42) 10) + (1 : Int32))) fun H24 => (gX1_move_at42 b0 f 126 (x1 : Int32) (x2 : Int32) (x3 : Int32) (x4 : Int32) H24))))) else (gX1_move_at42 b0 f 126 (x1 : Int32) (x2 : Int32) (x3 : Int32) (x4 : Int32) h))) else
    if lbl = 126 then (gd (vp_in x1 120) (ea_let (ea_wi h (b0 + 43) (Int32.toNatClampNeg x1) x3) fun H35 => (gd (vp_in x1 120) (ea_let (ea_wi H35 (b0 + 44) (Int32.toNatClampNeg x1) x4) fun H38 => (gd (vp_in x1 120) (ea_let (ea_wi H38 (b0 + 49) (Int32.toNatClampNeg x1) x2) fun H41 => (gd (vp_in x1 120) (ea_let (ea_wi H41 (b0 + 47) (Int32.toNatClampNeg x1) 0) fun H44 => (if (ea_i H44 (b0 + 42) 15) = (0 : Int32) then (some ((), H44)) else (gd (vp_in x1 120) (gd ((ea_r H44 (b0 + 31) (Int32.toNatClampNeg x1)) = some (Option.getD (ea_r H44 (b0 + 31) (Int32.toNatClampNeg x1)) 0)) (gd (((Option.getD (ea_r H44 (b0 + 31) (Int32.toNatClampNeg x1)) 0) < ea_n H44 ∧ ea_c H44 (Option.getD (ea_r H44 (b0 + 31) (Int32.toNatClampNeg x1)) 0) = 4)) (gd ((okX4_note b0 (Option.getD (ea_r H44 (b0 + 31) (Int32.toNatClampNeg x1)) 0) (x2 : Int32) (x3 : Int32) (x4 : Int32) H44)) (ea_let (wX4_note b0 (Option.getD (ea_r H44 (b0 + 31) (Int32.toNatClampNeg x1)) 0) (x2 : Int32) (x3 : Int32) (x4 : Int32) H44) fun H50 => (some ((), H50)))))))))))))))) else none
theorem tX1_move_at42 {d : Nat} {b0 : Nat} {h0 : ea_H} (hd : 4 ≤ d) : ∀ (f lbl : Nat) (x1 : Int32) (x2 : Int32) (x3 : Int32) (x4 : Int32) (h : ea_H) (r : Unit) (h' : ea_H), gX1_move_at42 b0 f lbl x1 x2 x3 x4 h = some (r, h') → ShC b0 h → (lbl = 0 → ea_W mX1_move d h0 none h' 0 [(0, vR (some (b0 + 42))), (1, vI x1), (2, vI x2), (3, vI x3), (4, vI x4)] [] h) ∧ (lbl = 72 → ea_W mX1_move d h0 none h' 72 [(0, vR (some (b0 + 42))), (1, vI x1), (2, vI x2), (3, vI x3), (4, vI x4)] [] h) ∧ (lbl = 126 → ea_W mX1_move d h0 none h' 126 [(0, vR (some (b0 + 42))), (1, vI x1), (2, vI x2), (3, vI x3), (4, vI x4)] [] h) := by
  intro f
  induction f with
  | zero => intro lbl x1 x2 x3 x4 h r h' E; cases E
  | succ f ih =>
    intro lbl x1 x2 x3 x4 h r h' E hs
    unfold gX1_move_at42 at E
    refine ⟨?_, ?_⟩
    · intro el
      subst el
      have E := (if_pos rfl).symm.trans E
      refine ea_aload_n (pc := 0) dX1_move_0 rfl 0 rfl ?_
      refine ea_getR (pc := 1) dX1_move_1 ec_1 (k := 1) (Nat.le_of_ble_eq_true rfl) rfl (Or.inl ew_361) (hs.1 42 (by decide)).1 (hs.1 42 (by decide)).2.1 (hs.2 42 1 rfl) ?_
      refine ea_iload_n (pc := 4) dX1_move_4 rfl 1 rfl ?_
      obtain ⟨z1, E⟩ := gd_some E
      refine ea_iald (pc := 5) dX1_move_5 (hs.1 43 (by decide)).1 (hs.1 43 (by decide)).2.1 (ea_vpl (hs.1 43 (by decide)).2.2 z1) ?_
      refine ea_if_ne (pc := 6) (tgt := 37) dX1_move_6 rfl (fun c18 => ?_) (fun c18 => ?_)
      · have E := (if_neg c18).symm.trans E
        refine ea_aload_n (pc := 37) dX1_move_37 rfl 0 rfl ?_
        refine ea_getR (pc := 38) dX1_move_38 ec_1 (k := 1) (Nat.le_of_ble_eq_true rfl) rfl (Or.inl ew_361) (hs.1 42 (by decide)).1 (hs.1 42 (by decide)).2.1 (hs.2 42 1 rfl) ?_
        refine ea_iload_n (pc := 41) dX1_move_41 rfl 1 rfl ?_
        obtain ⟨z2, E⟩ := gd_some E
        refine ea_iald (pc := 42) dX1_move_42 (hs.1 43 (by decide)).1 (hs.1 43 (by decide)).2.1 (ea_vpl (hs.1 43 (by decide)).2.2 z2) ?_
        refine ea_iconst (pc := 43) dX1_move_43 (v := 1) rfl ?_
        refine ea_icmp_ne (pc := 44) (tgt := 72) dX1_move_44 rfl (fun c10 => ?_) (fun c10 => ?_)
        · have E := (if_neg c10).symm.trans E
          exact ((ih 72 (x1 : Int32) (x2 : Int32) (x3 : Int32) (x4 : Int32) h _ _ E hs).2.1 rfl)
        · have E := (if_pos c10).symm.trans E
          refine ea_aload_n (pc := 47) dX1_move_47 rfl 0 rfl ?_
          refine ea_getR (pc := 48) dX1_move_48 ec_1 (k := 9) (Nat.le_of_ble_eq_true rfl) rfl (Or.inl ew_375) (hs.1 42 (by decide)).1 (hs.1 42 (by decide)).2.1 (hs.2 42 9 rfl) ?_
          refine ea_aload_n (pc := 51) dX1_move_51 rfl 0 rfl ?_
          refine ea_getR (pc := 52) dX1_move_52 ec_1 (k := 2) (Nat.le_of_ble_eq_true rfl) rfl (Or.inl ew_363) (hs.1 42 (by decide)).1 (hs.1 42 (by decide)).2.1 (hs.2 42 2 rfl) ?_
          refine ea_iload_n (pc := 55) dX1_move_55 rfl 1 rfl ?_
          obtain ⟨z3, E⟩ := gd_some E
          refine ea_iald (pc := 56) dX1_move_56 (hs.1 44 (by decide)).1 (hs.1 44 (by decide)).2.1 (ea_vpl (hs.1 44 (by decide)).2.2 z3) ?_
          refine ea_dup2 (pc := 57) dX1_move_57 rfl rfl ?_
          obtain ⟨z4, E⟩ := gd_some E
          refine ea_iald (pc := 58) dX1_move_58 (hs.1 51 (by decide)).1 (hs.1 51 (by decide)).2.1 (ea_vpl (hs.1 51 (by decide)).2.2 z4) ?_
          refine ea_iconst (pc := 59) dX1_move_59 (v := 1) rfl ?_
          refine ea_isub (pc := 60) dX1_move_60 ?_
          obtain ⟨z5, E⟩ := gd_some E
          refine ea_iast (pc := 61) dX1_move_61 (hs.1 51 (by decide)).1 (hs.1 51 (by decide)).2.1 (ea_vpl (hs.1 51 (by decide)).2.2 z5) ?_
          have hs6 : ShC b0 (ea_wi h (b0 + 51) (Int32.toNatClampNeg (ea_i h (b0 + 44) (Int32.toNatClampNeg x1))) ((ea_i h (b0 + 51) (Int32.toNatClampNeg (ea_i h (b0 + 44) (Int32.toNatClampNeg x1)))) - (1 : Int32))) := ShC_wi hs
          obtain ⟨H7, eH7, E⟩ := let_some E
          refine ea_nm eH7 ?_
          have hsH7 : ShC b0 H7 := by rw [eH7]; exact hs6
          refine ea_aload_n (pc := 62) dX1_move_62 rfl 0 rfl ?_
          refine ea_dup (pc := 63) dX1_move_63 rfl ?_
          refine ea_getI (pc := 64) dX1_move_64 ec_1 (k := 10) (Nat.le_of_ble_eq_true rfl) rfl (Or.inl ew_376) (hsH7.1 42 (by decide)).1 (hsH7.1 42 (by decide)).2.1 ?_
          refine ea_iconst (pc := 67) dX1_move_67 (v := 1) rfl ?_
          refine ea_isub (pc := 68) dX1_move_68 ?_
          refine ea_putI (pc := 69) dX1_move_69 ec_1 (k := 10) (Nat.le_of_ble_eq_true rfl) rfl (Or.inl ⟨rfl, Or.inl ew_376⟩) rfl rfl (hsH7.1 42 (by decide)).1 (hsH7.1 42 (by decide)).2.1 ?_
          have hs8 : ShC b0 (ea_wi H7 (b0 + 42) 10 ((ea_i H7 (b0 + 42) 10) - (1 : Int32))) := ShC_wi hsH7
          obtain ⟨H9, eH9, E⟩ := let_some E
          refine ea_nm eH9 ?_
          have hsH9 : ShC b0 H9 := by rw [eH9]; exact hs8
          exact ((ih 72 (x1 : Int32) (x2 : Int32) (x3 : Int32) (x4 : Int32) H9 _ _ E hsH9).2.1 rfl)
      · have E := (if_pos c18).symm.trans E
        refine ea_aload_n (pc := 9) dX1_move_9 rfl 0 rfl ?_
        refine ea_getR (pc := 10) dX1_move_10 ec_1 (k := 8) (Nat.le_of_ble_eq_true rfl) rfl (Or.inl ew_374) (hs.1 42 (by decide)).1 (hs.1 42 (by decide)).2.1 (hs.2 42 8 rfl) ?_
        refine ea_aload_n (pc := 13) dX1_move_13 rfl 0 rfl ?_
        refine ea_getR (pc := 14) dX1_move_14 ec_1 (k := 2) (Nat.le_of_ble_eq_true rfl) rfl (Or.inl ew_363) (hs.1 42 (by decide)).1 (hs.1 42 (by decide)).2.1 (hs.2 42 2 rfl) ?_
        refine ea_iload_n (pc := 17) dX1_move_17 rfl 1 rfl ?_
        obtain ⟨z11, E⟩ := gd_some E
        refine ea_iald (pc := 18) dX1_move_18 (hs.1 44 (by decide)).1 (hs.1 44 (by decide)).2.1 (ea_vpl (hs.1 44 (by decide)).2.2 z11) ?_
        refine ea_dup2 (pc := 19) dX1_move_19 rfl rfl ?_
        obtain ⟨z12, E⟩ := gd_some E
        refine ea_iald (pc := 20) dX1_move_20 (hs.1 50 (by decide)).1 (hs.1 50 (by decide)).2.1 (ea_vpl (hs.1 50 (by decide)).2.2 z12) ?_
        refine ea_iconst (pc := 21) dX1_move_21 (v := 1) rfl ?_
        refine ea_isub (pc := 22) dX1_move_22 ?_
        obtain ⟨z13, E⟩ := gd_some E
        refine ea_iast (pc := 23) dX1_move_23 (hs.1 50 (by decide)).1 (hs.1 50 (by decide)).2.1 (ea_vpl (hs.1 50 (by decide)).2.2 z13) ?_
        have hs14 : ShC b0 (ea_wi h (b0 + 50) (Int32.toNatClampNeg (ea_i h (b0 + 44) (Int32.toNatClampNeg x1))) ((ea_i h (b0 + 50) (Int32.toNatClampNeg (ea_i h (b0 + 44) (Int32.toNatClampNeg x1)))) - (1 : Int32))) := ShC_wi hs
        obtain ⟨H15, eH15, E⟩ := let_some E
        refine ea_nm eH15 ?_
        have hsH15 : ShC b0 H15 := by rw [eH15]; exact hs14
        refine ea_aload_n (pc := 24) dX1_move_24 rfl 0 rfl ?_
        refine ea_dup (pc := 25) dX1_move_25 rfl ?_
        refine ea_getI (pc := 26) dX1_move_26 ec_1 (k := 10) (Nat.le_of_ble_eq_true rfl) rfl (Or.inl ew_376) (hsH15.1 42 (by decide)).1 (hsH15.1 42 (by decide)).2.1 ?_
        refine ea_iconst (pc := 29) dX1_move_29 (v := 1) rfl ?_
        refine ea_isub (pc := 30) dX1_move_30 ?_
        refine ea_putI (pc := 31) dX1_move_31 ec_1 (k := 10) (Nat.le_of_ble_eq_true rfl) rfl (Or.inl ⟨rfl, Or.inl ew_376⟩) rfl rfl (hsH15.1 42 (by decide)).1 (hsH15.1 42 (by decide)).2.1 ?_
        have hs16 : ShC b0 (ea_wi H15 (b0 + 42) 10 ((ea_i H15 (b0 + 42) 10) - (1 : Int32))) := ShC_wi hsH15
        obtain ⟨H17, eH17, E⟩ := let_some E
        refine ea_nm eH17 ?_
        have hsH17 : ShC b0 H17 := by rw [eH17]; exact hs16
        refine ea_goto (pc := 34) (tgt := 72) dX1_move_34 rfl ?_
        exact ((ih 72 (x1 : Int32) (x2 : Int32) (x3 : Int32) (x4 : Int32) H17 _ _ E hsH17).2.1 rfl)
    refine ⟨?_, ?_⟩
    · intro el
      subst el
      have E := (if_neg (by decide)).symm.trans E
      have E := (if_pos rfl).symm.trans E
      refine ea_iload_n (pc := 72) dX1_move_72 rfl 3 rfl ?_
      refine ea_if_ne (pc := 73) (tgt := 100) dX1_move_73 rfl (fun c32 => ?_) (fun c32 => ?_)
      · have E := (if_neg c32).symm.trans E
        refine ea_iload_n (pc := 100) dX1_move_100 rfl 3 rfl ?_
        refine ea_iconst (pc := 101) dX1_move_101 (v := 1) rfl ?_
        refine ea_icmp_ne (pc := 102) (tgt := 126) dX1_move_102 rfl (fun c25 => ?_) (fun c25 => ?_)
        · have E := (if_neg c25).symm.trans E
          exact ((ih 126 (x1 : Int32) (x2 : Int32) (x3 : Int32) (x4 : Int32) h _ _ E hs).2.2 rfl)
        · have E := (if_pos c25).symm.trans E
          refine ea_aload_n (pc := 105) dX1_move_105 rfl 0 rfl ?_
          refine ea_getR (pc := 106) dX1_move_106 ec_1 (k := 9) (Nat.le_of_ble_eq_true rfl) rfl (Or.inl ew_375) (hs.1 42 (by decide)).1 (hs.1 42 (by decide)).2.1 (hs.2 42 9 rfl) ?_
          refine ea_iload (pc := 109) dX1_move_109 4 rfl ?_
          refine ea_dup2 (pc := 111) dX1_move_111 rfl rfl ?_
          obtain ⟨z19, E⟩ := gd_some E
          refine ea_iald (pc := 112) dX1_move_112 (hs.1 51 (by decide)).1 (hs.1 51 (by decide)).2.1 (ea_vpl (hs.1 51 (by decide)).2.2 z19) ?_
          refine ea_iconst (pc := 113) dX1_move_113 (v := 1) rfl ?_
          refine ea_iadd (pc := 114) dX1_move_114 ?_
          obtain ⟨z20, E⟩ := gd_some E
          refine ea_iast (pc := 115) dX1_move_115 (hs.1 51 (by decide)).1 (hs.1 51 (by decide)).2.1 (ea_vpl (hs.1 51 (by decide)).2.2 z20) ?_
          have hs21 : ShC b0 (ea_wi h (b0 + 51) (Int32.toNatClampNeg x4) ((ea_i h (b0 + 51) (Int32.toNatClampNeg x4)) + (1 : Int32))) := ShC_wi hs
          obtain ⟨H22, eH22, E⟩ := let_some E
          refine ea_nm eH22 ?_
          have hsH22 : ShC b0 H22 := by rw [eH22]; exact hs21
          refine ea_aload_n (pc := 116) dX1_move_116 rfl 0 rfl ?_
          refine ea_dup (pc := 117) dX1_move_117 rfl ?_
          refine ea_getI (pc := 118) dX1_move_118 ec_1 (k := 10) (Nat.le_of_ble_eq_true rfl) rfl (Or.inl ew_376) (hsH22.1 42 (by decide)).1 (hsH22.1 42 (by decide)).2.1 ?_
          refine ea_iconst (pc := 121) dX1_move_121 (v := 1) rfl ?_
          refine ea_iadd (pc := 122) dX1_move_122 ?_
          refine ea_putI (pc := 123) dX1_move_123 ec_1 (k := 10) (Nat.le_of_ble_eq_true rfl) rfl (Or.inl ⟨rfl, Or.inl ew_376⟩) rfl rfl (hsH22.1 42 (by decide)).1 (hsH22.1 42 (by decide)).2.1 ?_
          have hs23 : ShC b0 (ea_wi H22 (b0 + 42) 10 ((ea_i H22 (b0 + 42) 10) + (1 : Int32))) := ShC_wi hsH22
          obtain ⟨H24, eH24, E⟩ := let_some E
          refine ea_nm eH24 ?_
          have hsH24 : ShC b0 H24 := by rw [eH24]; exact hs23
          exact ((ih 126 (x1 : Int32) (x2 : Int32) (x3 : Int32) (x4 : Int32) H24 _ _ E hsH24).2.2 rfl)
      · have E := (if_pos c32).symm.trans E
        refine ea_aload_n (pc := 76) dX1_move_76 rfl 0 rfl ?_
        refine ea_getR (pc := 77) dX1_move_77 ec_1 (k := 8) (Nat.le_of_ble_eq_true rfl) rfl (Or.inl ew_374) (hs.1 42 (by decide)).1 (hs.1 42 (by decide)).2.1 (hs.2 42 8 rfl) ?_
        refine ea_iload (pc := 80) dX1_move_80 4 rfl ?_
        refine ea_dup2 (pc := 82) dX1_move_82 rfl rfl ?_
        obtain ⟨z26, E⟩ := gd_some E
        refine ea_iald (pc := 83) dX1_move_83 (hs.1 50 (by decide)).1 (hs.1 50 (by decide)).2.1 (ea_vpl (hs.1 50 (by decide)).2.2 z26) ?_
        refine ea_iconst (pc := 84) dX1_move_84 (v := 1) rfl ?_
        refine ea_iadd (pc := 85) dX1_move_85 ?_
        obtain ⟨z27, E⟩ := gd_some E
        refine ea_iast (pc := 86) dX1_move_86 (hs.1 50 (by decide)).1 (hs.1 50 (by decide)).2.1 (ea_vpl (hs.1 50 (by decide)).2.2 z27) ?_
        have hs28 : ShC b0 (ea_wi h (b0 + 50) (Int32.toNatClampNeg x4) ((ea_i h (b0 + 50) (Int32.toNatClampNeg x4)) + (1 : Int32))) := ShC_wi hs
        obtain ⟨H29, eH29, E⟩ := let_some E
        refine ea_nm eH29 ?_
        have hsH29 : ShC b0 H29 := by rw [eH29]; exact hs28
        refine ea_aload_n (pc := 87) dX1_move_87 rfl 0 rfl ?_
        refine ea_dup (pc := 88) dX1_move_88 rfl ?_
        refine ea_getI (pc := 89) dX1_move_89 ec_1 (k := 10) (Nat.le_of_ble_eq_true rfl) rfl (Or.inl ew_376) (hsH29.1 42 (by decide)).1 (hsH29.1 42 (by decide)).2.1 ?_
        refine ea_iconst (pc := 92) dX1_move_92 (v := 1) rfl ?_
        refine ea_iadd (pc := 93) dX1_move_93 ?_
        refine ea_putI (pc := 94) dX1_move_94 ec_1 (k := 10) (Nat.le_of_ble_eq_true rfl) rfl (Or.inl ⟨rfl, Or.inl ew_376⟩) rfl rfl (hsH29.1 42 (by decide)).1 (hsH29.1 42 (by decide)).2.1 ?_
        have hs30 : ShC b0 (ea_wi H29 (b0 + 42) 10 ((ea_i H29 (b0 + 42) 10) + (1 : Int32))) := ShC_wi hsH29
        obtain ⟨H31, eH31, E⟩ := let_some E
        refine ea_nm eH31 ?_
        have hsH31 : ShC b0 H31 := by rw [eH31]; exact hs30
        refine ea_goto (pc := 97) (tgt := 126) dX1_move_97 rfl ?_
        exact ((ih 126 (x1 : Int32) (x2 : Int32) (x3 : Int32) (x4 : Int32) H31 _ _ E hsH31).2.2 rfl)
    intro el
    subst el
    have E := (if_neg (by decide)).symm.trans E
    have E := (if_neg (by decide)).symm.trans E
    have E := (if_pos rfl).symm.trans E
    refine ea_aload_n (pc := 126) dX1_move_126 rfl 0 rfl ?_
    refine ea_getR (pc := 127) dX1_move_127 ec_1 (k := 1) (Nat.le_of_ble_eq_true rfl) rfl (Or.inl ew_361) (hs.1 42 (by decide)).1 (hs.1 42 (by decide)).2.1 (hs.2 42 1 rfl) ?_
    refine ea_iload_n (pc := 130) dX1_move_130 rfl 1 rfl ?_
    refine ea_iload_n (pc := 131) dX1_move_131 rfl 3 rfl ?_
    obtain ⟨z33, E⟩ := gd_some E
    refine ea_iast (pc := 132) dX1_move_132 (hs.1 43 (by decide)).1 (hs.1 43 (by decide)).2.1 (ea_vpl (hs.1 43 (by decide)).2.2 z33) ?_
    have hs34 : ShC b0 (ea_wi h (b0 + 43) (Int32.toNatClampNeg x1) x3) := ShC_wi hs
    obtain ⟨H35, eH35, E⟩ := let_some E
    refine ea_nm eH35 ?_
    have hsH35 : ShC b0 H35 := by rw [eH35]; exact hs34
    refine ea_aload_n (pc := 133) dX1_move_133 rfl 0 rfl ?_
    refine ea_getR (pc := 134) dX1_move_134 ec_1 (k := 2) (Nat.le_of_ble_eq_true rfl) rfl (Or.inl ew_363) (hsH35.1 42 (by decide)).1 (hsH35.1 42 (by decide)).2.1 (hsH35.2 42 2 rfl) ?_
    refine ea_iload_n (pc := 137) dX1_move_137 rfl 1 rfl ?_
    refine ea_iload (pc := 138) dX1_move_138 4 rfl ?_
    obtain ⟨z36, E⟩ := gd_some E
    refine ea_iast (pc := 140) dX1_move_140 (hsH35.1 44 (by decide)).1 (hsH35.1 44 (by decide)).2.1 (ea_vpl (hsH35.1 44 (by decide)).2.2 z36) ?_
    have hs37 : ShC b0 (ea_wi H35 (b0 + 44) (Int32.toNatClampNeg x1) x4) := ShC_wi hsH35
    obtain ⟨H38, eH38, E⟩ := let_some E
    refine ea_nm eH38 ?_
    have hsH38 : ShC b0 H38 := by rw [eH38]; exact hs37
    refine ea_aload_n (pc := 141) dX1_move_141 rfl 0 rfl ?_
    refine ea_getR (pc := 142) dX1_move_142 ec_1 (k := 7) (Nat.le_of_ble_eq_true rfl) rfl (Or.inl ew_373) (hsH38.1 42 (by decide)).1 (hsH38.1 42 (by decide)).2.1 (hsH38.2 42 7 rfl) ?_
    refine ea_iload_n (pc := 145) dX1_move_145 rfl 1 rfl ?_
    refine ea_iload_n (pc := 146) dX1_move_146 rfl 2 rfl ?_
    obtain ⟨z39, E⟩ := gd_some E
    refine ea_iast (pc := 147) dX1_move_147 (hsH38.1 49 (by decide)).1 (hsH38.1 49 (by decide)).2.1 (ea_vpl (hsH38.1 49 (by decide)).2.2 z39) ?_
    have hs40 : ShC b0 (ea_wi H38 (b0 + 49) (Int32.toNatClampNeg x1) x2) := ShC_wi hsH38
    obtain ⟨H41, eH41, E⟩ := let_some E
    refine ea_nm eH41 ?_
    have hsH41 : ShC b0 H41 := by rw [eH41]; exact hs40
    refine ea_aload_n (pc := 148) dX1_move_148 rfl 0 rfl ?_
    refine ea_getR (pc := 149) dX1_move_149 ec_1 (k := 5) (Nat.le_of_ble_eq_true rfl) rfl (Or.inl ew_369) (hsH41.1 42 (by decide)).1 (hsH41.1 42 (by decide)).2.1 (hsH41.2 42 5 rfl) ?_
    refine ea_iload_n (pc := 152) dX1_move_152 rfl 1 rfl ?_
    refine ea_iconst (pc := 153) dX1_move_153 (v := 0) rfl ?_
    obtain ⟨z42, E⟩ := gd_some E
    refine ea_zast (pc := 154) dX1_move_154 (y := 0) (ea_bn (Or.inl rfl)) (hsH41.1 47 (by decide)).1 (hsH41.1 47 (by decide)).2.1 (ea_vpl (hsH41.1 47 (by decide)).2.2 z42) ?_
    have hs43 : ShC b0 (ea_wi H41 (b0 + 47) (Int32.toNatClampNeg x1) 0) := ShC_wi hsH41
    obtain ⟨H44, eH44, E⟩ := let_some E
    refine ea_nm eH44 ?_
    have hsH44 : ShC b0 H44 := by rw [eH44]; exact hs43
    refine ea_aload_n (pc := 155) dX1_move_155 rfl 0 rfl ?_
    refine ea_getI (pc := 156) dX1_move_156 ec_1 (k := 15) (Nat.le_of_ble_eq_true rfl) rfl (Or.inl ew_381) (hsH44.1 42 (by decide)).1 (hsH44.1 42 (by decide)).2.1 ?_
    refine ea_if_eq (pc := 159) (tgt := 175) dX1_move_159 rfl (fun c51 => ?_) (fun c51 => ?_)
    · have E := (if_pos c51).symm.trans E
      exact ea_vretO (pc := 175) dX1_move_175 rfl E
    · have E := (if_neg c51).symm.trans E
      refine ea_aload_n (pc := 162) dX1_move_162 rfl 0 rfl ?_
      refine ea_getR (pc := 163) dX1_move_163 ec_1 (k := 14) (Nat.le_of_ble_eq_true rfl) rfl (Or.inl ew_380) (hsH44.1 42 (by decide)).1 (hsH44.1 42 (by decide)).2.1 (hsH44.2 42 14 rfl) ?_
      refine ea_iload_n (pc := 166) dX1_move_166 rfl 1 rfl ?_
      obtain ⟨z45, E⟩ := gd_some E
      refine ea_aald23 (pc := 167) dX1_move_167 (hsH44.1 31 (by decide)).1 (hsH44.1 31 (by decide)).2.1 (ea_vpl (hsH44.1 31 (by decide)).2.2 z45) rfl ?_
      refine ea_iload_n (pc := 168) dX1_move_168 rfl 2 rfl ?_
      refine ea_iload_n (pc := 169) dX1_move_169 rfl 3 rfl ?_
      refine ea_iload (pc := 170) dX1_move_170 4 rfl ?_
      obtain ⟨e46, E⟩ := gd_some E
      obtain ⟨f47, E⟩ := gd_some E
      obtain ⟨z48, E⟩ := gd_some E
      refine ea_deref3 e46 ?_
      refine ea_callV (pc := 172) (d' := d - 1) (As := [vI x2, vI x3, vI x4]) (st := []) dX1_move_172 kX4_note (sX4_note (d := d - 1) (by omega) hsH44 z48) (by omega) rfl (Nat.le_of_ble_eq_true rfl) ew_649 ew_650 ew_651 (ci := 4) rfl (by decide) f47.1 f47.2 ?_
      have hs49 : ShC b0 (wX4_note b0 (Option.getD (ea_r H44 (b0 + 31) (Int32.toNatClampNeg x1)) 0) (x2 : Int32) (x3 : Int32) (x4 : Int32) H44) := shX4_note hsH44
      obtain ⟨H50, eH50, E⟩ := let_some E
      refine ea_nm eH50 ?_
      have hsH50 : ShC b0 H50 := by rw [eH50]; exact hs49
      exact ea_vretO (pc := 175) dX1_move_175 rfl E
noncomputable def qX1_move_at42 (b0 : Nat) (x1 : Int32) (x2 : Int32) (x3 : Int32) (x4 : Int32) (h : ea_H) : Option (Unit × ea_H) := gX1_move_at42 b0 1000000000 0 x1 x2 x3 x4 h
def okX1_move_at42 (b0 : Nat) (x1 : Int32) (x2 : Int32) (x3 : Int32) (x4 : Int32) (h : ea_H) : Prop := ∃ x, qX1_move_at42 b0 x1 x2 x3 x4 h = some x
noncomputable def wX1_move_at42 (b0 : Nat) (x1 : Int32) (x2 : Int32) (x3 : Int32) (x4 : Int32) (h : ea_H) : ea_H := ((qX1_move_at42 b0 x1 x2 x3 x4 h).getD ((), h)).2
theorem sX1_move_at42 {d : Nat} {b0 : Nat} {x1 : Int32} {x2 : Int32} {x3 : Int32} {x4 : Int32} {h : ea_H} (hd : 4 ≤ d) (hs : ShC b0 h) (K : okX1_move_at42 b0 x1 x2 x3 x4 h) : ea_Met mX1_move d [vR (some (b0 + 42)), vI x1, vI x2, vI x3, vI x4] h none (wX1_move_at42 b0 x1 x2 x3 x4 h) := by
  obtain ⟨⟨x, y⟩, K⟩ := K
  unfold wX1_move_at42
  rw [K]
  unfold qX1_move_at42 at K
  exact ea_enter rfl (Nat.le_of_ble_eq_true rfl) ((tX1_move_at42 hd 1000000000 0 x1 x2 x3 x4 h x y K hs).1 rfl)
theorem zX1_move_at42 {b0 : Nat} : ∀ (f lbl : Nat) (x1 : Int32) (x2 : Int32) (x3 : Int32) (x4 : Int32) (h : ea_H) (r : Unit) (h' : ea_H), gX1_move_at42 b0 f lbl x1 x2 x3 x4 h = some (r, h') → ShC b0 h → ShC b0 h' := by
  intro f
  induction f with
  | zero => intro lbl x1 x2 x3 x4 h r h' E; cases E
  | succ f ih =>
    intro lbl x1 x2 x3 x4 h r h' E hs
    unfold gX1_move_at42 at E
    by_cases el0 : lbl = 0
    · have E := (if_pos el0).symm.trans E
      obtain ⟨z1, E⟩ := gd_some E
      by_cases c18 : (ea_i h (b0 + 43) (Int32.toNatClampNeg x1)) = (0 : Int32)
      · have E := (if_pos c18).symm.trans E
        obtain ⟨z11, E⟩ := gd_some E
        obtain ⟨z12, E⟩ := gd_some E
        obtain ⟨z13, E⟩ := gd_some E
        obtain ⟨H15, eH15, E⟩ := let_some E
        have hsH15 : ShC b0 H15 := by rw [eH15]; exact (ShC_wi hs)
        obtain ⟨H17, eH17, E⟩ := let_some E
        have hsH17 : ShC b0 H17 := by rw [eH17]; exact (ShC_wi hsH15)
        exact ih 72 (x1 : Int32) (x2 : Int32) (x3 : Int32) (x4 : Int32) H17 _ _ E hsH17
      have E := (if_neg c18).symm.trans E
      obtain ⟨z2, E⟩ := gd_some E
      by_cases c10 : (ea_i h (b0 + 43) (Int32.toNatClampNeg x1)) = (1 : Int32)
      · have E := (if_pos c10).symm.trans E
        obtain ⟨z3, E⟩ := gd_some E
        obtain ⟨z4, E⟩ := gd_some E
        obtain ⟨z5, E⟩ := gd_some E
        obtain ⟨H7, eH7, E⟩ := let_some E
        have hsH7 : ShC b0 H7 := by rw [eH7]; exact (ShC_wi hs)
        obtain ⟨H9, eH9, E⟩ := let_some E
        have hsH9 : ShC b0 H9 := by rw [eH9]; exact (ShC_wi hsH7)
        exact ih 72 (x1 : Int32) (x2 : Int32) (x3 : Int32) (x4 : Int32) H9 _ _ E hsH9
      have E := (if_neg c10).symm.trans E
      exact ih 72 (x1 : Int32) (x2 : Int32) (x3 : Int32) (x4 : Int32) h _ _ E hs
    have E := (if_neg el0).symm.trans E
    by_cases el1 : lbl = 72
    · have E := (if_pos el1).symm.trans E
      by_cases c32 : x3 = (0 : Int32)
      · have E := (if_pos c32).symm.trans E
        obtain ⟨z26, E⟩ := gd_some E
        obtain ⟨z27, E⟩ := gd_some E
        obtain ⟨H29, eH29, E⟩ := let_some E
        have hsH29 : ShC b0 H29 := by rw [eH29]; exact (ShC_wi hs)
        obtain ⟨H31, eH31, E⟩ := let_some E
        have hsH31 : ShC b0 H31 := by rw [eH31]; exact (ShC_wi hsH29)
        exact ih 126 (x1 : Int32) (x2 : Int32) (x3 : Int32) (x4 : Int32) H31 _ _ E hsH31
      have E := (if_neg c32).symm.trans E
      by_cases c25 : x3 = (1 : Int32)
      · have E := (if_pos c25).symm.trans E
        obtain ⟨z19, E⟩ := gd_some E
        obtain ⟨z20, E⟩ := gd_some E
        obtain ⟨H22, eH22, E⟩ := let_some E
        have hsH22 : ShC b0 H22 := by rw [eH22]; exact (ShC_wi hs)
        obtain ⟨H24, eH24, E⟩ := let_some E
        have hsH24 : ShC b0 H24 := by rw [eH24]; exact (ShC_wi hsH22)
        exact ih 126 (x1 : Int32) (x2 : Int32) (x3 : Int32) (x4 : Int32) H24 _ _ E hsH24
      have E := (if_neg c25).symm.trans E
      exact ih 126 (x1 : Int32) (x2 : Int32) (x3 : Int32) (x4 : Int32) h _ _ E hs
    have E := (if_neg el1).symm.trans E
    by_cases el2 : lbl = 126
    · have E := (if_pos el2).symm.trans E
      obtain ⟨z33, E⟩ := gd_some E
      obtain ⟨H35, eH35, E⟩ := let_some E
      have hsH35 : ShC b0 H35 := by rw [eH35]; exact (ShC_wi hs)
      obtain ⟨z36, E⟩ := gd_some E
      obtain ⟨H38, eH38, E⟩ := let_some E
      have hsH38 : ShC b0 H38 := by rw [eH38]; exact (ShC_wi hsH35)
      obtain ⟨z39, E⟩ := gd_some E
      obtain ⟨H41, eH41, E⟩ := let_some E
      have hsH41 : ShC b0 H41 := by rw [eH41]; exact (ShC_wi hsH38)
      obtain ⟨z42, E⟩ := gd_some E
      obtain ⟨H44, eH44, E⟩ := let_some E
      have hsH44 : ShC b0 H44 := by rw [eH44]; exact (ShC_wi hsH41)
      by_cases c51 : (ea_i H44 (b0 + 42) 15) = (0 : Int32)
      · have E := (if_pos c51).symm.trans E
        exact ea_shO E hsH44
      have E := (if_neg c51).symm.trans E
      obtain ⟨z45, E⟩ := gd_some E
      obtain ⟨e46, E⟩ := gd_some E
      obtain ⟨f47, E⟩ := gd_some E
      obtain ⟨z48, E⟩ := gd_some E
      obtain ⟨H50, eH50, E⟩ := let_some E
      have hsH50 : ShC b0 H50 := by rw [eH50]; exact (shX4_note hsH44)
      exact ea_shO E hsH50
    have E := (if_neg el2).symm.trans E
    cases E
theorem shX1_move_at42 {b0 : Nat} {x1 : Int32} {x2 : Int32} {x3 : Int32} {x4 : Int32} {h : ea_H} (hs : ShC b0 h) : ShC b0 (wX1_move_at42 b0 x1 x2 x3 x4 h) := by
  unfold wX1_move_at42
  cases K : qX1_move_at42 b0 x1 x2 x3 x4 h with
  | none => exact hs
  | some x => obtain ⟨x, y⟩ := x; unfold qX1_move_at42 at K; exact zX1_move_at42 _ _ _ _ _ _ _ _ _ K hs
noncomputable def gX1_burn_at32 (b0 : Nat) : Nat → Nat → Int32 → Int32 → ea_H → Option (Unit × ea_H)
  | 0, _, _, _, _ => none
  | f + 1, lbl, x1, x2, h =>
    if lbl = 0 then (gX1_burn_at32 b0 f 2 (x1 : Int32) (0 : Int32) h) else
    if lbl = 2 then (if (ea_i h (b0 + 32) 0) ≤ x2 then (some ((), h)) else (gd (vp_in x2 120) (if (ea_i h (b0 + 33) (Int32.toNatClampNeg x2)) = (3 : Int32) then (gd (vp_in x2 120) (gd (vp_in x2 120) (gd ((ea_r h (b0 + 31) (Int32.toNatClampNeg x2)) = some (Option.getD (ea_r h (b0 + 31) (Int32.toNatClampNeg x2)) 0)) (gd (((Option.getD (ea_r h (b0 + 31) (Int32.toNatClampNeg x2)) 0) < ea_n h ∧ ea_c h (Option.getD (ea_r h (b0 + 31) (Int32.toNatClampNeg x2)) 0) = 4)) (if (x1 - ((ea_i h (b0 + 39) (Int32.toNatClampNeg x2)) / (1440 : Int32))) < (ea_i h (Option.getD (ea_r h (b0 + 31) (Int32.toNatClampNeg x2)) 0) 14) then (gX1_burn_at32 b0 f 2 (x1 : Int32) ((x2 + (1 : Int32)) : Int32) h) else (gd (vp_in x2 120) (gd ((okX1_move_at32 b0 (x2 : Int32) ((x1 * (1440 : Int32)) : Int32) (6 : Int32) ((ea_i h (b0 + 34) (Int32.toNatClampNeg x2)) : Int32) h)) (ea_let (wX1_move_at32 b0 (x2 : Int32) ((x1 * (1440 : Int32)) : Int32) (6 : Int32) ((ea_i h (b0 + 34) (Int32.toNatClampNeg x2)) : Int32) h) fun H9 => (gX1_burn_at32 b0 f 2 (x1 : Int32) ((x2 + (1 : Int32)) : Int32) H9))))))))) else (gX1_burn_at32 b0 f 2 (x1 : Int32) ((x2 + (1 : Int32)) : Int32) h)))) else none
theorem tX1_burn_at32 {d : Nat} {b0 : Nat} {h0 : ea_H} (hd : 5 ≤ d) : ∀ (f lbl : Nat) (x1 : Int32) (x2 : Int32) (h : ea_H) (r : Unit) (h' : ea_H), gX1_burn_at32 b0 f lbl x1 x2 h = some (r, h') → ShC b0 h → (lbl = 0 → ea_W mX1_burn d h0 none h' 0 [(0, vR (some (b0 + 32))), (1, vI x1)] [] h) ∧ (lbl = 2 → ea_W mX1_burn d h0 none h' 2 [(0, vR (some (b0 + 32))), (1, vI x1), (2, vI x2)] [] h) := by
  intro f
  induction f with
  | zero => intro lbl x1 x2 h r h' E; cases E
  | succ f ih =>
    intro lbl x1 x2 h r h' E hs
    unfold gX1_burn_at32 at E
    refine ⟨?_, ?_⟩
    · intro el
      subst el
      have E := (if_pos rfl).symm.trans E
      refine ea_iconst (pc := 0) dX1_burn_0 (v := 0) rfl ?_
      refine ea_istore_n (pc := 1) (lv' := [(0, vR (some (b0 + 32))), (1, vI x1), (2, vI 0)]) dX1_burn_1 rfl (Nat.le_of_ble_eq_true rfl) [1, 2, 0] rfl ?_
      exact ((ih 2 (x1 : Int32) (0 : Int32) h _ _ E hs).2 rfl)
    intro el
    subst el
    have E := (if_neg (by decide)).symm.trans E
    have E := (if_pos rfl).symm.trans E
    refine ea_iload_n (pc := 2) dX1_burn_2 rfl 2 rfl ?_
    refine ea_aload_n (pc := 3) dX1_burn_3 rfl 0 rfl ?_
    refine ea_getI (pc := 4) dX1_burn_4 ec_1 (k := 0) (Nat.le_of_ble_eq_true rfl) rfl (Or.inl ew_359) (hs.1 32 (by decide)).1 (hs.1 32 (by decide)).2.1 ?_
    refine ea_icmp_ge (pc := 7) (tgt := 68) dX1_burn_7 rfl (fun c12 => ?_) (fun c12 => ?_)
    · have E := (if_pos c12).symm.trans E
      exact ea_vretO (pc := 68) dX1_burn_68 rfl E
    · have E := (if_neg c12).symm.trans E
      refine ea_aload_n (pc := 10) dX1_burn_10 rfl 0 rfl ?_
      refine ea_getR (pc := 11) dX1_burn_11 ec_1 (k := 1) (Nat.le_of_ble_eq_true rfl) rfl (Or.inl ew_361) (hs.1 32 (by decide)).1 (hs.1 32 (by decide)).2.1 (hs.2 32 1 rfl) ?_
      refine ea_iload_n (pc := 14) dX1_burn_14 rfl 2 rfl ?_
      obtain ⟨z1, E⟩ := gd_some E
      refine ea_iald (pc := 15) dX1_burn_15 (hs.1 33 (by decide)).1 (hs.1 33 (by decide)).2.1 (ea_vpl (hs.1 33 (by decide)).2.2 z1) ?_
      refine ea_iconst (pc := 16) dX1_burn_16 (v := 3) rfl ?_
      refine ea_icmp_ne (pc := 17) (tgt := 62) dX1_burn_17 rfl (fun c11 => ?_) (fun c11 => ?_)
      · have E := (if_neg c11).symm.trans E
        refine ea_iinc (pc := 62) (v := 1) (lv' := [(0, vR (some (b0 + 32))), (1, vI x1), (2, vI (x2 + (1 : Int32)))]) dX1_burn_62 2 rfl rfl (Nat.le_of_ble_eq_true rfl) [1, 2, 0] rfl ?_
        refine ea_goto (pc := 65) (tgt := 2) dX1_burn_65 rfl ?_
        exact ((ih 2 (x1 : Int32) ((x2 + (1 : Int32)) : Int32) h _ _ E hs).2 rfl)
      · have E := (if_pos c11).symm.trans E
        refine ea_iload_n (pc := 20) dX1_burn_20 rfl 1 rfl ?_
        refine ea_aload_n (pc := 21) dX1_burn_21 rfl 0 rfl ?_
        refine ea_getR (pc := 22) dX1_burn_22 ec_1 (k := 7) (Nat.le_of_ble_eq_true rfl) rfl (Or.inl ew_373) (hs.1 32 (by decide)).1 (hs.1 32 (by decide)).2.1 (hs.2 32 7 rfl) ?_
        refine ea_iload_n (pc := 25) dX1_burn_25 rfl 2 rfl ?_
        obtain ⟨z2, E⟩ := gd_some E
        refine ea_iald (pc := 26) dX1_burn_26 (hs.1 39 (by decide)).1 (hs.1 39 (by decide)).2.1 (ea_vpl (hs.1 39 (by decide)).2.2 z2) ?_
        refine ea_sipush (pc := 27) dX1_burn_27 (v := 1440) rfl ?_
        refine ea_idiv (pc := 30) dX1_burn_30 (by decide) ?_
        refine ea_isub (pc := 31) dX1_burn_31 ?_
        refine ea_aload_n (pc := 32) dX1_burn_32 rfl 0 rfl ?_
        refine ea_getR (pc := 33) dX1_burn_33 ec_1 (k := 14) (Nat.le_of_ble_eq_true rfl) rfl (Or.inl ew_380) (hs.1 32 (by decide)).1 (hs.1 32 (by decide)).2.1 (hs.2 32 14 rfl) ?_
        refine ea_iload_n (pc := 36) dX1_burn_36 rfl 2 rfl ?_
        obtain ⟨z3, E⟩ := gd_some E
        refine ea_aald23 (pc := 37) dX1_burn_37 (hs.1 31 (by decide)).1 (hs.1 31 (by decide)).2.1 (ea_vpl (hs.1 31 (by decide)).2.2 z3) rfl ?_
        obtain ⟨e4, E⟩ := gd_some E
        obtain ⟨f5, E⟩ := gd_some E
        refine ea_deref0 e4 ?_
        refine ea_getI (pc := 38) dX1_burn_38 ec_4 (k := 14) (Nat.le_of_ble_eq_true rfl) rfl (Or.inl ew_971) f5.1 f5.2 ?_
        refine ea_icmp_lt (pc := 41) (tgt := 62) dX1_burn_41 rfl (fun c10 => ?_) (fun c10 => ?_)
        · have E := (if_pos c10).symm.trans E
          refine ea_iinc (pc := 62) (v := 1) (lv' := [(0, vR (some (b0 + 32))), (1, vI x1), (2, vI (x2 + (1 : Int32)))]) dX1_burn_62 2 rfl rfl (Nat.le_of_ble_eq_true rfl) [1, 2, 0] rfl ?_
          refine ea_goto (pc := 65) (tgt := 2) dX1_burn_65 rfl ?_
          exact ((ih 2 (x1 : Int32) ((x2 + (1 : Int32)) : Int32) h _ _ E hs).2 rfl)
        · have E := (if_neg c10).symm.trans E
          refine ea_aload_n (pc := 44) dX1_burn_44 rfl 0 rfl ?_
          refine ea_iload_n (pc := 45) dX1_burn_45 rfl 2 rfl ?_
          refine ea_iload_n (pc := 46) dX1_burn_46 rfl 1 rfl ?_
          refine ea_sipush (pc := 47) dX1_burn_47 (v := 1440) rfl ?_
          refine ea_imul (pc := 50) dX1_burn_50 ?_
          refine ea_bipush (pc := 51) dX1_burn_51 (v := 6) rfl ?_
          refine ea_aload_n (pc := 53) dX1_burn_53 rfl 0 rfl ?_
          refine ea_getR (pc := 54) dX1_burn_54 ec_1 (k := 2) (Nat.le_of_ble_eq_true rfl) rfl (Or.inl ew_363) (hs.1 32 (by decide)).1 (hs.1 32 (by decide)).2.1 (hs.2 32 2 rfl) ?_
          refine ea_iload_n (pc := 57) dX1_burn_57 rfl 2 rfl ?_
          obtain ⟨z6, E⟩ := gd_some E
          refine ea_iald (pc := 58) dX1_burn_58 (hs.1 34 (by decide)).1 (hs.1 34 (by decide)).2.1 (ea_vpl (hs.1 34 (by decide)).2.2 z6) ?_
          obtain ⟨z7, E⟩ := gd_some E
          refine ea_callV (pc := 59) (d' := d - 1) (As := [vI x2, vI (x1 * (1440 : Int32)), vI 6, vI (ea_i h (b0 + 34) (Int32.toNatClampNeg x2))]) (st := []) dX1_burn_59 kX1_move (sX1_move_at32 (d := d - 1) (by omega) hs z7) (by omega) rfl (Nat.le_of_ble_eq_true rfl) ew_645 ew_646 ew_647 (ci := 1) rfl (by decide) (hs.1 32 (by decide)).1 (hs.1 32 (by decide)).2.1 ?_
          have hs8 : ShC b0 (wX1_move_at32 b0 (x2 : Int32) ((x1 * (1440 : Int32)) : Int32) (6 : Int32) ((ea_i h (b0 + 34) (Int32.toNatClampNeg x2)) : Int32) h) := shX1_move_at32 hs
          obtain ⟨H9, eH9, E⟩ := let_some E
          refine ea_nm eH9 ?_
          have hsH9 : ShC b0 H9 := by rw [eH9]; exact hs8
          refine ea_iinc (pc := 62) (v := 1) (lv' := [(0, vR (some (b0 + 32))), (1, vI x1), (2, vI (x2 + (1 : Int32)))]) dX1_burn_62 2 rfl rfl (Nat.le_of_ble_eq_true rfl) [1, 2, 0] rfl ?_
          refine ea_goto (pc := 65) (tgt := 2) dX1_burn_65 rfl ?_
          exact ((ih 2 (x1 : Int32) ((x2 + (1 : Int32)) : Int32) H9 _ _ E hsH9).2 rfl)
noncomputable def qX1_burn_at32 (b0 : Nat) (x1 : Int32) (h : ea_H) : Option (Unit × ea_H) := gX1_burn_at32 b0 1000000000 0 x1 0 h
def okX1_burn_at32 (b0 : Nat) (x1 : Int32) (h : ea_H) : Prop := ∃ x, qX1_burn_at32 b0 x1 h = some x
noncomputable def wX1_burn_at32 (b0 : Nat) (x1 : Int32) (h : ea_H) : ea_H := ((qX1_burn_at32 b0 x1 h).getD ((), h)).2
theorem sX1_burn_at32 {d : Nat} {b0 : Nat} {x1 : Int32} {h : ea_H} (hd : 5 ≤ d) (hs : ShC b0 h) (K : okX1_burn_at32 b0 x1 h) : ea_Met mX1_burn d [vR (some (b0 + 32)), vI x1] h none (wX1_burn_at32 b0 x1 h) := by
  obtain ⟨⟨x, y⟩, K⟩ := K
  unfold wX1_burn_at32
  rw [K]
  unfold qX1_burn_at32 at K
  exact ea_enter rfl (Nat.le_of_ble_eq_true rfl) ((tX1_burn_at32 hd 1000000000 0 x1 0 h x y K hs).1 rfl)
theorem zX1_burn_at32 {b0 : Nat} : ∀ (f lbl : Nat) (x1 : Int32) (x2 : Int32) (h : ea_H) (r : Unit) (h' : ea_H), gX1_burn_at32 b0 f lbl x1 x2 h = some (r, h') → ShC b0 h → ShC b0 h' := by
  intro f
  induction f with
  | zero => intro lbl x1 x2 h r h' E; cases E
  | succ f ih =>
    intro lbl x1 x2 h r h' E hs
    unfold gX1_burn_at32 at E
    by_cases el0 : lbl = 0
    · have E := (if_pos el0).symm.trans E
      exact ih 2 (x1 : Int32) (0 : Int32) h _ _ E hs
    have E := (if_neg el0).symm.trans E
    by_cases el1 : lbl = 2
    · have E := (if_pos el1).symm.trans E
      by_cases c12 : (ea_i h (b0 + 32) 0) ≤ x2
      · have E := (if_pos c12).symm.trans E
        exact ea_shO E hs
      have E := (if_neg c12).symm.trans E
      obtain ⟨z1, E⟩ := gd_some E
      by_cases c11 : (ea_i h (b0 + 33) (Int32.toNatClampNeg x2)) = (3 : Int32)
      · have E := (if_pos c11).symm.trans E
        obtain ⟨z2, E⟩ := gd_some E
        obtain ⟨z3, E⟩ := gd_some E
        obtain ⟨e4, E⟩ := gd_some E
        obtain ⟨f5, E⟩ := gd_some E
        by_cases c10 : (x1 - ((ea_i h (b0 + 39) (Int32.toNatClampNeg x2)) / (1440 : Int32))) < (ea_i h (Option.getD (ea_r h (b0 + 31) (Int32.toNatClampNeg x2)) 0) 14)
        · have E := (if_pos c10).symm.trans E
          exact ih 2 (x1 : Int32) ((x2 + (1 : Int32)) : Int32) h _ _ E hs
        have E := (if_neg c10).symm.trans E
        obtain ⟨z6, E⟩ := gd_some E
        obtain ⟨z7, E⟩ := gd_some E
        obtain ⟨H9, eH9, E⟩ := let_some E
        have hsH9 : ShC b0 H9 := by rw [eH9]; exact (shX1_move_at32 hs)
        exact ih 2 (x1 : Int32) ((x2 + (1 : Int32)) : Int32) H9 _ _ E hsH9
      have E := (if_neg c11).symm.trans E
      exact ih 2 (x1 : Int32) ((x2 + (1 : Int32)) : Int32) h _ _ E hs
    have E := (if_neg el1).symm.trans E
    cases E
theorem shX1_burn_at32 {b0 : Nat} {x1 : Int32} {h : ea_H} (hs : ShC b0 h) : ShC b0 (wX1_burn_at32 b0 x1 h) := by
  unfold wX1_burn_at32
  cases K : qX1_burn_at32 b0 x1 h with
  | none => exact hs
  | some x => obtain ⟨x, y⟩ := x; unfold qX1_burn_at32 at K; exact zX1_burn_at32 _ _ _ _ _ _ _ K hs
noncomputable def gX1_burn_at42 (b0 : Nat) : Nat → Nat → Int32 → Int32 → ea_H → Option (Unit × ea_H)
  | 0, _, _, _, _ => none
  | f + 1, lbl, x1, x2, h =>
    if lbl = 0 then (gX1_burn_at42 b0 f 2 (x1 : Int32) (0 : Int32) h) else
    if lbl = 2 then (if (ea_i h (b0 + 42) 0) ≤ x2 then (some ((), h)) else (gd (vp_in x2 120) (if (ea_i h (b0 + 43) (Int32.toNatClampNeg x2)) = (3 : Int32) then (gd (vp_in x2 120) (gd (vp_in x2 120) (gd ((ea_r h (b0 + 31) (Int32.toNatClampNeg x2)) = some (Option.getD (ea_r h (b0 + 31) (Int32.toNatClampNeg x2)) 0)) (gd (((Option.getD (ea_r h (b0 + 31) (Int32.toNatClampNeg x2)) 0) < ea_n h ∧ ea_c h (Option.getD (ea_r h (b0 + 31) (Int32.toNatClampNeg x2)) 0) = 4)) (if (x1 - ((ea_i h (b0 + 49) (Int32.toNatClampNeg x2)) / (1440 : Int32))) < (ea_i h (Option.getD (ea_r h (b0 + 31) (Int32.toNatClampNeg x2)) 0) 14) then (gX1_burn_at42 b0 f 2 (x1 : Int32) ((x2 + (1 : Int32)) : Int32) h) else (gd (vp_in x2 120) (gd ((okX1_move_at42 b0 (x2 : Int32) ((x1 * (1440 : Int32)) : Int32) (6 : Int32) ((ea_i h (b0 + 44) (Int32.toNatClampNeg x2)) : Int32) h)) (ea_let (wX1_move_at42 b0 (x2 : Int32) ((x1 * (1440 : Int32)) : Int32) (6 : Int32) ((ea_i h (b0 + 44) (Int32.toNatClampNeg x2)) : Int32) h) fun H9 => (gX1_burn_at42 b0 f 2 (x1 : Int32) ((x2 + (1 : Int32)) : Int32) H9))))))))) else (gX1_burn_at42 b0 f 2 (x1 : Int32) ((x2 + (1 : Int32)) : Int32) h)))) else none
theorem tX1_burn_at42 {d : Nat} {b0 : Nat} {h0 : ea_H} (hd : 5 ≤ d) : ∀ (f lbl : Nat) (x1 : Int32) (x2 : Int32) (h : ea_H) (r : Unit) (h' : ea_H), gX1_burn_at42 b0 f lbl x1 x2 h = some (r, h') → ShC b0 h → (lbl = 0 → ea_W mX1_burn d h0 none h' 0 [(0, vR (some (b0 + 42))), (1, vI x1)] [] h) ∧ (lbl = 2 → ea_W mX1_burn d h0 none h' 2 [(0, vR (some (b0 + 42))), (1, vI x1), (2, vI x2)] [] h) := by
  intro f
  induction f with
  | zero => intro lbl x1 x2 h r h' E; cases E
  | succ f ih =>
    intro lbl x1 x2 h r h' E hs
    unfold gX1_burn_at42 at E
    refine ⟨?_, ?_⟩
    · intro el
      subst el
      have E := (if_pos rfl).symm.trans E
      refine ea_iconst (pc := 0) dX1_burn_0 (v := 0) rfl ?_
      refine ea_istore_n (pc := 1) (lv' := [(0, vR (some (b0 + 42))), (1, vI x1), (2, vI 0)]) dX1_burn_1 rfl (Nat.le_of_ble_eq_true rfl) [1, 2, 0] rfl ?_
      exact ((ih 2 (x1 : Int32) (0 : Int32) h _ _ E hs).2 rfl)
    intro el
    subst el
    have E := (if_neg (by decide)).symm.trans E
    have E := (if_pos rfl).symm.trans E
    refine ea_iload_n (pc := 2) dX1_burn_2 rfl 2 rfl ?_
    refine ea_aload_n (pc := 3) dX1_burn_3 rfl 0 rfl ?_
    refine ea_getI (pc := 4) dX1_burn_4 ec_1 (k := 0) (Nat.le_of_ble_eq_true rfl) rfl (Or.inl ew_359) (hs.1 42 (by decide)).1 (hs.1 42 (by decide)).2.1 ?_
    refine ea_icmp_ge (pc := 7) (tgt := 68) dX1_burn_7 rfl (fun c12 => ?_) (fun c12 => ?_)
    · have E := (if_pos c12).symm.trans E
      exact ea_vretO (pc := 68) dX1_burn_68 rfl E
    · have E := (if_neg c12).symm.trans E
      refine ea_aload_n (pc := 10) dX1_burn_10 rfl 0 rfl ?_
      refine ea_getR (pc := 11) dX1_burn_11 ec_1 (k := 1) (Nat.le_of_ble_eq_true rfl) rfl (Or.inl ew_361) (hs.1 42 (by decide)).1 (hs.1 42 (by decide)).2.1 (hs.2 42 1 rfl) ?_
      refine ea_iload_n (pc := 14) dX1_burn_14 rfl 2 rfl ?_
      obtain ⟨z1, E⟩ := gd_some E
      refine ea_iald (pc := 15) dX1_burn_15 (hs.1 43 (by decide)).1 (hs.1 43 (by decide)).2.1 (ea_vpl (hs.1 43 (by decide)).2.2 z1) ?_
      refine ea_iconst (pc := 16) dX1_burn_16 (v := 3) rfl ?_
      refine ea_icmp_ne (pc := 17) (tgt := 62) dX1_burn_17 rfl (fun c11 => ?_) (fun c11 => ?_)
      · have E := (if_neg c11).symm.trans E
        refine ea_iinc (pc := 62) (v := 1) (lv' := [(0, vR (some (b0 + 42))), (1, vI x1), (2, vI (x2 + (1 : Int32)))]) dX1_burn_62 2 rfl rfl (Nat.le_of_ble_eq_true rfl) [1, 2, 0] rfl ?_
        refine ea_goto (pc := 65) (tgt := 2) dX1_burn_65 rfl ?_
        exact ((ih 2 (x1 : Int32) ((x2 + (1 : Int32)) : Int32) h _ _ E hs).2 rfl)
      · have E := (if_pos c11).symm.trans E
        refine ea_iload_n (pc := 20) dX1_burn_20 rfl 1 rfl ?_
        refine ea_aload_n (pc := 21) dX1_burn_21 rfl 0 rfl ?_
        refine ea_getR (pc := 22) dX1_burn_22 ec_1 (k := 7) (Nat.le_of_ble_eq_true rfl) rfl (Or.inl ew_373) (hs.1 42 (by decide)).1 (hs.1 42 (by decide)).2.1 (hs.2 42 7 rfl) ?_
        refine ea_iload_n (pc := 25) dX1_burn_25 rfl 2 rfl ?_
        obtain ⟨z2, E⟩ := gd_some E
        refine ea_iald (pc := 26) dX1_burn_26 (hs.1 49 (by decide)).1 (hs.1 49 (by decide)).2.1 (ea_vpl (hs.1 49 (by decide)).2.2 z2) ?_
        refine ea_sipush (pc := 27) dX1_burn_27 (v := 1440) rfl ?_
        refine ea_idiv (pc := 30) dX1_burn_30 (by decide) ?_
        refine ea_isub (pc := 31) dX1_burn_31 ?_
        refine ea_aload_n (pc := 32) dX1_burn_32 rfl 0 rfl ?_
        refine ea_getR (pc := 33) dX1_burn_33 ec_1 (k := 14) (Nat.le_of_ble_eq_true rfl) rfl (Or.inl ew_380) (hs.1 42 (by decide)).1 (hs.1 42 (by decide)).2.1 (hs.2 42 14 rfl) ?_
        refine ea_iload_n (pc := 36) dX1_burn_36 rfl 2 rfl ?_
        obtain ⟨z3, E⟩ := gd_some E
        refine ea_aald23 (pc := 37) dX1_burn_37 (hs.1 31 (by decide)).1 (hs.1 31 (by decide)).2.1 (ea_vpl (hs.1 31 (by decide)).2.2 z3) rfl ?_
        obtain ⟨e4, E⟩ := gd_some E
        obtain ⟨f5, E⟩ := gd_some E
        refine ea_deref0 e4 ?_
        refine ea_getI (pc := 38) dX1_burn_38 ec_4 (k := 14) (Nat.le_of_ble_eq_true rfl) rfl (Or.inl ew_971) f5.1 f5.2 ?_
        refine ea_icmp_lt (pc := 41) (tgt := 62) dX1_burn_41 rfl (fun c10 => ?_) (fun c10 => ?_)
        · have E := (if_pos c10).symm.trans E
          refine ea_iinc (pc := 62) (v := 1) (lv' := [(0, vR (some (b0 + 42))), (1, vI x1), (2, vI (x2 + (1 : Int32)))]) dX1_burn_62 2 rfl rfl (Nat.le_of_ble_eq_true rfl) [1, 2, 0] rfl ?_
          refine ea_goto (pc := 65) (tgt := 2) dX1_burn_65 rfl ?_
          exact ((ih 2 (x1 : Int32) ((x2 + (1 : Int32)) : Int32) h _ _ E hs).2 rfl)
        · have E := (if_neg c10).symm.trans E
          refine ea_aload_n (pc := 44) dX1_burn_44 rfl 0 rfl ?_
          refine ea_iload_n (pc := 45) dX1_burn_45 rfl 2 rfl ?_
          refine ea_iload_n (pc := 46) dX1_burn_46 rfl 1 rfl ?_
          refine ea_sipush (pc := 47) dX1_burn_47 (v := 1440) rfl ?_
          refine ea_imul (pc := 50) dX1_burn_50 ?_
          refine ea_bipush (pc := 51) dX1_burn_51 (v := 6) rfl ?_
          refine ea_aload_n (pc := 53) dX1_burn_53 rfl 0 rfl ?_
          refine ea_getR (pc := 54) dX1_burn_54 ec_1 (k := 2) (Nat.le_of_ble_eq_true rfl) rfl (Or.inl ew_363) (hs.1 42 (by decide)).1 (hs.1 42 (by decide)).2.1 (hs.2 42 2 rfl) ?_
          refine ea_iload_n (pc := 57) dX1_burn_57 rfl 2 rfl ?_
          obtain ⟨z6, E⟩ := gd_some E
          refine ea_iald (pc := 58) dX1_burn_58 (hs.1 44 (by decide)).1 (hs.1 44 (by decide)).2.1 (ea_vpl (hs.1 44 (by decide)).2.2 z6) ?_
          obtain ⟨z7, E⟩ := gd_some E
          refine ea_callV (pc := 59) (d' := d - 1) (As := [vI x2, vI (x1 * (1440 : Int32)), vI 6, vI (ea_i h (b0 + 44) (Int32.toNatClampNeg x2))]) (st := []) dX1_burn_59 kX1_move (sX1_move_at42 (d := d - 1) (by omega) hs z7) (by omega) rfl (Nat.le_of_ble_eq_true rfl) ew_645 ew_646 ew_647 (ci := 1) rfl (by decide) (hs.1 42 (by decide)).1 (hs.1 42 (by decide)).2.1 ?_
          have hs8 : ShC b0 (wX1_move_at42 b0 (x2 : Int32) ((x1 * (1440 : Int32)) : Int32) (6 : Int32) ((ea_i h (b0 + 44) (Int32.toNatClampNeg x2)) : Int32) h) := shX1_move_at42 hs
          obtain ⟨H9, eH9, E⟩ := let_some E
          refine ea_nm eH9 ?_
          have hsH9 : ShC b0 H9 := by rw [eH9]; exact hs8
          refine ea_iinc (pc := 62) (v := 1) (lv' := [(0, vR (some (b0 + 42))), (1, vI x1), (2, vI (x2 + (1 : Int32)))]) dX1_burn_62 2 rfl rfl (Nat.le_of_ble_eq_true rfl) [1, 2, 0] rfl ?_
          refine ea_goto (pc := 65) (tgt := 2) dX1_burn_65 rfl ?_
          exact ((ih 2 (x1 : Int32) ((x2 + (1 : Int32)) : Int32) H9 _ _ E hsH9).2 rfl)
noncomputable def qX1_burn_at42 (b0 : Nat) (x1 : Int32) (h : ea_H) : Option (Unit × ea_H) := gX1_burn_at42 b0 1000000000 0 x1 0 h
def okX1_burn_at42 (b0 : Nat) (x1 : Int32) (h : ea_H) : Prop := ∃ x, qX1_burn_at42 b0 x1 h = some x
noncomputable def wX1_burn_at42 (b0 : Nat) (x1 : Int32) (h : ea_H) : ea_H := ((qX1_burn_at42 b0 x1 h).getD ((), h)).2
theorem sX1_burn_at42 {d : Nat} {b0 : Nat} {x1 : Int32} {h : ea_H} (hd : 5 ≤ d) (hs : ShC b0 h) (K : okX1_burn_at42 b0 x1 h) : ea_Met mX1_burn d [vR (some (b0 + 42)), vI x1] h none (wX1_burn_at42 b0 x1 h) := by
  obtain ⟨⟨x, y⟩, K⟩ := K
  unfold wX1_burn_at42
  rw [K]
  unfold qX1_burn_at42 at K
  exact ea_enter rfl (Nat.le_of_ble_eq_true rfl) ((tX1_burn_at42 hd 1000000000 0 x1 0 h x y K hs).1 rfl)
theorem zX1_burn_at42 {b0 : Nat} : ∀ (f lbl : Nat) (x1 : Int32) (x2 : Int32) (h : ea_H) (r : Unit) (h' : ea_H), gX1_burn_at42 b0 f lbl x1 x2 h = some (r, h') → ShC b0 h → ShC b0 h' := by
  intro f
  induction f with
  | zero => intro lbl x1 x2 h r h' E; cases E
  | succ f ih =>
    intro lbl x1 x2 h r h' E hs
    unfold gX1_burn_at42 at E
    by_cases el0 : lbl = 0
    · have E := (if_pos el0).symm.trans E
      exact ih 2 (x1 : Int32) (0 : Int32) h _ _ E hs
    have E := (if_neg el0).symm.trans E
    by_cases el1 : lbl = 2
    · have E := (if_pos el1).symm.trans E
      by_cases c12 : (ea_i h (b0 + 42) 0) ≤ x2
      · have E := (if_pos c12).symm.trans E
        exact ea_shO E hs
      have E := (if_neg c12).symm.trans E
      obtain ⟨z1, E⟩ := gd_some E
      by_cases c11 : (ea_i h (b0 + 43) (Int32.toNatClampNeg x2)) = (3 : Int32)
      · have E := (if_pos c11).symm.trans E
        obtain ⟨z2, E⟩ := gd_some E
        obtain ⟨z3, E⟩ := gd_some E
        obtain ⟨e4, E⟩ := gd_some E
        obtain ⟨f5, E⟩ := gd_some E
        by_cases c10 : (x1 - ((ea_i h (b0 + 49) (Int32.toNatClampNeg x2)) / (1440 : Int32))) < (ea_i h (Option.getD (ea_r h (b0 + 31) (Int32.toNatClampNeg x2)) 0) 14)
        · have E := (if_pos c10).symm.trans E
          exact ih 2 (x1 : Int32) ((x2 + (1 : Int32)) : Int32) h _ _ E hs
        have E := (if_neg c10).symm.trans E
        obtain ⟨z6, E⟩ := gd_some E
        obtain ⟨z7, E⟩ := gd_some E
        obtain ⟨H9, eH9, E⟩ := let_some E
        have hsH9 : ShC b0 H9 := by rw [eH9]; exact (shX1_move_at42 hs)
        exact ih 2 (x1 : Int32) ((x2 + (1 : Int32)) : Int32) H9 _ _ E hsH9
      have E := (if_neg c11).symm.trans E
      exact ih 2 (x1 : Int32) ((x2 + (1 : Int32)) : Int32) h _ _ E hs
    have E := (if_neg el1).symm.trans E
    cases E
theorem shX1_burn_at42 {b0 : Nat} {x1 : Int32} {h : ea_H} (hs : ShC b0 h) : ShC b0 (wX1_burn_at42 b0 x1 h) := by
  unfold wX1_burn_at42
  cases K : qX1_burn_at42 b0 x1 h with
  | none => exact hs
  | some x => obtain ⟨x, y⟩ := x; unfold qX1_burn_at42 at K; exact zX1_burn_at42 _ _ _ _ _ _ _ K hs
noncomputable def gX1_comes_at32 (b0 : Nat) : Nat → Nat → Int32 → Int32 → Int32 → Int32 → Int32 → Int32 → Int32 → Int32 → Int32 → ea_H → Option (Unit × ea_H)
  | 0, _, _, _, _, _, _, _, _, _, _, _ => none
  | f + 1, lbl, sx0, x1, x2, x3, x4, x5, x6, x7, x8, h =>
    if lbl = 0 then (gd (vp_in (((10 : Int32) * (vX10_dayIn (x1 : Int32) h)) + (vX10_trainIn (x1 : Int32) h)) 70) (if (ea_i h (b0 + 41) (Int32.toNatClampNeg (((10 : Int32) * (vX10_dayIn (x1 : Int32) h)) + (vX10_trainIn (x1 : Int32) h)))) = (0 : Int32) then (some ((), h)) else (gd (vp_in (((8 : Int32) * (((10 : Int32) * (vX10_dayIn (x1 : Int32) h)) + (vX10_trainIn (x1 : Int32) h))) + (vX10_stopIn (x1 : Int32) h)) 560) (if (ea_i h (b0 + 12) (Int32.toNatClampNeg (((8 : Int32) * (((10 : Int32) * (vX10_dayIn (x1 : Int32) h)) + (vX10_trainIn (x1 : Int32) h))) + (vX10_stopIn (x1 : Int32) h)))) = (0 : Int32) then (gd (vp_in (vX10_trainIn (x1 : Int32) h) 10) (if (vX10_stopIn (x1 : Int32) h) = ((ea_i h (b0 + 6) (Int32.toNatClampNeg (vX10_trainIn (x1 : Int32) h))) - (1 : Int32)) then (gX1_comes_at32 b0 f 73 (1 : Int32) 0 (x2 : Int32) ((vX10_trainIn (x1 : Int32) h) : Int32) ((vX10_stopIn (x1 : Int32) h) : Int32) ((((10 : Int32) * (vX10_dayIn (x1 : Int32) h)) + (vX10_trainIn (x1 : Int32) h)) : Int32) 0 0 0 h) else (gX1_comes_at32 b0 f 73 (0 : Int32) 0 (x2 : Int32) ((vX10_trainIn (x1 : Int32) h) : Int32) ((vX10_stopIn (x1 : Int32) h) : Int32) ((((10 : Int32) * (vX10_dayIn (x1 : Int32) h)) + (vX10_trainIn (x1 : Int32) h)) : Int32) 0 0 0 h))) else (some ((), h)))))) else
    if lbl = 73 then (gd (vp_in (((8 : Int32) * x3) + x4) 80) (gX1_comes_at32 b0 f 95 0 0 (x2 : Int32) 0 (x4 : Int32) (x5 : Int32) (sx0 : Int32) ((ea_i h (b0 + 7) (Int32.toNatClampNeg (((8 : Int32) * x3) + x4))) : Int32) (0 : Int32) h)) else
    if lbl = 95 then (if (ea_i h (b0 + 32) 0) ≤ x8 then (some ((), h)) else (if x6 = (0 : Int32) then (gd (vp_in x8 120) (if (ea_i h (b0 + 37) (Int32.toNatClampNeg x8)) = (0 : Int32) then (gX1_comes_at32 b0 f 136 (0 : Int32) 0 (x2 : Int32) 0 (x4 : Int32) (x5 : Int32) (x6 : Int32) (x7 : Int32) (x8 : Int32) h) else (gd (vp_in x8 120) (if x4 < (ea_i h (b0 + 35) (Int32.toNatClampNeg x8)) then (gX1_comes_at32 b0 f 136 (0 : Int32) 0 (x2 : Int32) 0 (x4 : Int32) (x5 : Int32) (x6 : Int32) (x7 : Int32) (x8 : Int32) h) else (gX1_comes_at32 b0 f 136 (1 : Int32) 0 (x2 : Int32) 0 (x4 : Int32) (x5 : Int32) (x6 : Int32) (x7 : Int32) (x8 : Int32) h))))) else (gX1_comes_at32 b0 f 136 (1 : Int32) 0 (x2 : Int32) 0 (x4 : Int32) (x5 : Int32) (x6 : Int32) (x7 : Int32) (x8 : Int32) h))) else
    if lbl = 136 then (if sx0 = (0 : Int32) then (gX1_comes_at32 b0 f 95 0 0 (x2 : Int32) 0 (x4 : Int32) (x5 : Int32) (x6 : Int32) (x7 : Int32) ((x8 + (1 : Int32)) : Int32) h) else (gd ((okX1_isAboard_at32 b0 (x8 : Int32) (x5 : Int32) h)) (if (vX1_isAboard_at32 b0 (x8 : Int32) (x5 : Int32) h) = (0 : Int32) then (gX1_comes_at32 b0 f 95 0 0 (x2 : Int32) 0 (x4 : Int32) (x5 : Int32) (x6 : Int32) (x7 : Int32) ((x8 + (1 : Int32)) : Int32) h) else (gd (vp_in x8 120) (if (ea_i h (b0 + 37) (Int32.toNatClampNeg x8)) = (0 : Int32) then (gd (vp_in x8 120) (gd (vp_in x8 120) (ea_let (ea_wi h (b0 + 36) (Int32.toNatClampNeg x8) ((ea_i h (b0 + 36) (Int32.toNatClampNeg x8)) + (1 : Int32))) fun H22 => (gd (vp_in x5 70) (gd (vp_in x5 70) (ea_let (ea_wi H22 (b0 + 38) (Int32.toNatClampNeg x5) ((ea_i H22 (b0 + 38) (Int32.toNatClampNeg x5)) + (1 : Int32))) fun H26 => (gX1_comes_at32 b0 f 186 0 0 (x2 : Int32) 0 (x4 : Int32) (x5 : Int32) (x6 : Int32) (x7 : Int32) (x8 : Int32) H26))))))) else (gX1_comes_at32 b0 f 186 0 0 (x2 : Int32) 0 (x4 : Int32) (x5 : Int32) (x6 : Int32) (x7 : Int32) (x8 : Int32) h)))))) else
    if lbl = 186 then (gd ((okX1_stateIn_at32 b0 (x8 : Int32) (x7 : Int32) h)) (gd ((okX1_move_at32 b0 (x8 : Int32) (x2 : Int32) ((vX1_stateIn_at32 b0 (x8 : Int32) (x7 : Int32) h) : Int32) (x7 : Int32) h)) (ea_let (wX1_move_at32 b0 (x8 : Int32) (x2 : Int32) ((vX1_stateIn_at32 b0 (x8 : Int32) (x7 : Int32) h) : Int32) (x7 : Int32) h) fun H33 => (gX1_comes_at32 b0 f 95 0 0 (x2 : Int32) 0 (x4 : Int32) (x5 : Int32) (x6 : Int32) (x7 : Int32) ((x8 + (1 : Int32)) : Int32) H33)))) else none
theorem tX1_comes_at32 {d : Nat} {b0 : Nat} {h0 : ea_H} (hd : 5 ≤ d) : ∀ (f lbl : Nat) (sx0 : Int32) (x1 : Int32) (x2 : Int32) (x3 : Int32) (x4 : Int32) (x5 : Int32) (x6 : Int32) (x7 : Int32) (x8 : Int32) (h : ea_H) (r : Unit) (h' : ea_H), gX1_comes_at32 b0 f lbl sx0 x1 x2 x3 x4 x5 x6 x7 x8 h = some (r, h') → ShC b0 h → (lbl = 0 → ea_W mX1_comes d h0 none h' 0 [(0, vR (some (b0 + 32))), (1, vI x1), (2, vI x2)] [] h) ∧ (lbl = 73 → ea_W mX1_comes d h0 none h' 73 [(0, vR (some (b0 + 32))), (2, vI x2), (3, vI x3), (4, vI x4), (5, vI x5)] [vI sx0] h) ∧ (lbl = 95 → ea_W mX1_comes d h0 none h' 95 [(0, vR (some (b0 + 32))), (2, vI x2), (4, vI x4), (5, vI x5), (6, vI x6), (7, vI x7), (8, vI x8)] [] h) ∧ (lbl = 136 → ea_W mX1_comes d h0 none h' 136 [(0, vR (some (b0 + 32))), (2, vI x2), (4, vI x4), (5, vI x5), (6, vI x6), (7, vI x7), (8, vI x8)] [vI sx0] h) ∧ (lbl = 186 → ea_W mX1_comes d h0 none h' 186 [(0, vR (some (b0 + 32))), (2, vI x2), (4, vI x4), (5, vI x5), (6, vI x6), (7, vI x7), (8, vI x8)] [] h) := by
  intro f
  induction f with
  | zero => intro lbl sx0 x1 x2 x3 x4 x5 x6 x7 x8 h r h' E; cases E
  | succ f ih =>
    intro lbl sx0 x1 x2 x3 x4 x5 x6 x7 x8 h r h' E hs
    unfold gX1_comes_at32 at E
    refine ⟨?_, ?_⟩
    · intro el
      subst el
      have E := (if_pos rfl).symm.trans E
      refine ea_iload_n (pc := 0) dX1_comes_0 rfl 1 rfl ?_
      refine ea_callS (pc := 1) (d' := d - 1) (As := [vI x1]) (st := []) dX1_comes_1 kX10_trainIn (sX10_trainIn (d := d - 1) (by omega)) (by omega) rfl (Nat.le_of_ble_eq_true rfl) ew_670 ew_597 ?_
      refine ea_istore_n (pc := 4) (lv' := [(0, vR (some (b0 + 32))), (1, vI x1), (2, vI x2), (3, vI (vX10_trainIn (x1 : Int32) h))]) dX1_comes_4 rfl (Nat.le_of_ble_eq_true rfl) [1, 2, 3, 0] rfl ?_
      refine ea_iload_n (pc := 5) dX1_comes_5 rfl 1 rfl ?_
      refine ea_callS (pc := 6) (d' := d - 1) (As := [vI x1]) (st := []) dX1_comes_6 kX10_stopIn (sX10_stopIn (d := d - 1) (by omega)) (by omega) rfl (Nat.le_of_ble_eq_true rfl) ew_671 ew_600 ?_
      refine ea_istore (pc := 9) (lv' := [(0, vR (some (b0 + 32))), (1, vI x1), (2, vI x2), (3, vI (vX10_trainIn (x1 : Int32) h)), (4, vI (vX10_stopIn (x1 : Int32) h))]) dX1_comes_9 (Nat.le_of_ble_eq_true rfl) [1, 2, 3, 4, 0] rfl ?_
      refine ea_bipush (pc := 11) dX1_comes_11 (v := 10) rfl ?_
      refine ea_iload_n (pc := 13) dX1_comes_13 rfl 1 rfl ?_
      refine ea_callS (pc := 14) (d' := d - 1) (As := [vI x1]) (st := [vI 10]) dX1_comes_14 kX10_dayIn (sX10_dayIn (d := d - 1) (by omega)) (by omega) rfl (Nat.le_of_ble_eq_true rfl) ew_672 ew_609 ?_
      refine ea_imul (pc := 17) dX1_comes_17 ?_
      refine ea_iload_n (pc := 18) dX1_comes_18 rfl 3 rfl ?_
      refine ea_iadd (pc := 19) dX1_comes_19 ?_
      refine ea_istore (pc := 20) (lv' := [(0, vR (some (b0 + 32))), (2, vI x2), (3, vI (vX10_trainIn (x1 : Int32) h)), (4, vI (vX10_stopIn (x1 : Int32) h)), (5, vI (((10 : Int32) * (vX10_dayIn (x1 : Int32) h)) + (vX10_trainIn (x1 : Int32) h)))]) dX1_comes_20 (Nat.le_of_ble_eq_true rfl) [1, 3, 4, 5, 0] rfl ?_
      refine ea_aload_n (pc := 22) dX1_comes_22 rfl 0 rfl ?_
      refine ea_getR (pc := 23) dX1_comes_23 ec_1 (k := 9) (Nat.le_of_ble_eq_true rfl) rfl (Or.inl ew_375) (hs.1 32 (by decide)).1 (hs.1 32 (by decide)).2.1 (hs.2 32 9 rfl) ?_
      refine ea_iload (pc := 26) dX1_comes_26 4 rfl ?_
      obtain ⟨z4, E⟩ := gd_some E
      refine ea_iald (pc := 28) dX1_comes_28 (hs.1 41 (by decide)).1 (hs.1 41 (by decide)).2.1 (ea_vpl (hs.1 41 (by decide)).2.2 z4) ?_
      refine ea_if_eq (pc := 29) (tgt := 51) dX1_comes_29 rfl (fun c9 => ?_) (fun c9 => ?_)
      · have E := (if_pos c9).symm.trans E
        exact ea_vretO (pc := 51) dX1_comes_51 rfl E
      · have E := (if_neg c9).symm.trans E
        refine ea_aload_n (pc := 32) dX1_comes_32 rfl 0 rfl ?_
        refine ea_getR (pc := 33) dX1_comes_33 ec_1 (k := 11) (Nat.le_of_ble_eq_true rfl) rfl (Or.inl ew_377) (hs.1 32 (by decide)).1 (hs.1 32 (by decide)).2.1 (hs.2 32 11 rfl) ?_
        refine ea_getR (pc := 36) dX1_comes_36 ec_9 (k := 7) (Nat.le_of_ble_eq_true rfl) rfl (Or.inl ew_200) (hs.1 5 (by decide)).1 (hs.1 5 (by decide)).2.1 (hs.2 5 7 rfl) ?_
        refine ea_bipush (pc := 39) dX1_comes_39 (v := 8) rfl ?_
        refine ea_iload (pc := 41) dX1_comes_41 4 rfl ?_
        refine ea_imul (pc := 43) dX1_comes_43 ?_
        refine ea_iload (pc := 44) dX1_comes_44 3 rfl ?_
        refine ea_iadd (pc := 46) dX1_comes_46 ?_
        obtain ⟨z5, E⟩ := gd_some E
        refine ea_zald (pc := 47) dX1_comes_47 (hs.1 12 (by decide)).1 (hs.1 12 (by decide)).2.1 (ea_vpl (hs.1 12 (by decide)).2.2 z5) ?_
        refine ea_if_eq (pc := 48) (tgt := 52) dX1_comes_48 rfl (fun c8 => ?_) (fun c8 => ?_)
        · have E := (if_pos c8).symm.trans E
          refine ea_iload (pc := 52) dX1_comes_52 3 rfl ?_
          refine ea_aload_n (pc := 54) dX1_comes_54 rfl 0 rfl ?_
          refine ea_getR (pc := 55) dX1_comes_55 ec_1 (k := 11) (Nat.le_of_ble_eq_true rfl) rfl (Or.inl ew_377) (hs.1 32 (by decide)).1 (hs.1 32 (by decide)).2.1 (hs.2 32 11 rfl) ?_
          refine ea_getR (pc := 58) dX1_comes_58 ec_9 (k := 1) (Nat.le_of_ble_eq_true rfl) rfl (Or.inl ew_182) (hs.1 5 (by decide)).1 (hs.1 5 (by decide)).2.1 (hs.2 5 1 rfl) ?_
          refine ea_iload_n (pc := 61) dX1_comes_61 rfl 2 rfl ?_
          obtain ⟨z6, E⟩ := gd_some E
          refine ea_iald (pc := 62) dX1_comes_62 (hs.1 6 (by decide)).1 (hs.1 6 (by decide)).2.1 (ea_vpl (hs.1 6 (by decide)).2.2 z6) ?_
          refine ea_iconst (pc := 63) dX1_comes_63 (v := 1) rfl ?_
          refine ea_isub (pc := 64) dX1_comes_64 ?_
          refine ea_icmp_ne (pc := 65) (tgt := 72) dX1_comes_65 rfl (fun c7 => ?_) (fun c7 => ?_)
          · have E := (if_neg c7).symm.trans E
            refine ea_iconst (pc := 72) dX1_comes_72 (v := 0) rfl ?_
            exact ((ih 73 (0 : Int32) 0 (x2 : Int32) ((vX10_trainIn (x1 : Int32) h) : Int32) ((vX10_stopIn (x1 : Int32) h) : Int32) ((((10 : Int32) * (vX10_dayIn (x1 : Int32) h)) + (vX10_trainIn (x1 : Int32) h)) : Int32) 0 0 0 h _ _ E hs).2.1 rfl)
          · have E := (if_pos c7).symm.trans E
            refine ea_iconst (pc := 68) dX1_comes_68 (v := 1) rfl ?_
            refine ea_goto (pc := 69) (tgt := 73) dX1_comes_69 rfl ?_
            exact ((ih 73 (1 : Int32) 0 (x2 : Int32) ((vX10_trainIn (x1 : Int32) h) : Int32) ((vX10_stopIn (x1 : Int32) h) : Int32) ((((10 : Int32) * (vX10_dayIn (x1 : Int32) h)) + (vX10_trainIn (x1 : Int32) h)) : Int32) 0 0 0 h _ _ E hs).2.1 rfl)
        · have E := (if_neg c8).symm.trans E
          exact ea_vretO (pc := 51) dX1_comes_51 rfl E
    refine ⟨?_, ?_⟩
    · intro el
      subst el
      have E := (if_neg (by decide)).symm.trans E
      have E := (if_pos rfl).symm.trans E
      refine ea_istore (pc := 73) (lv' := [(0, vR (some (b0 + 32))), (2, vI x2), (3, vI x3), (4, vI x4), (5, vI x5), (6, vI sx0)]) dX1_comes_73 (Nat.le_of_ble_eq_true rfl) [1, 2, 3, 4, 5, 0] rfl ?_
      refine ea_aload_n (pc := 75) dX1_comes_75 rfl 0 rfl ?_
      refine ea_getR (pc := 76) dX1_comes_76 ec_1 (k := 11) (Nat.le_of_ble_eq_true rfl) rfl (Or.inl ew_377) (hs.1 32 (by decide)).1 (hs.1 32 (by decide)).2.1 (hs.2 32 11 rfl) ?_
      refine ea_getR (pc := 79) dX1_comes_79 ec_9 (k := 2) (Nat.le_of_ble_eq_true rfl) rfl (Or.inl ew_186) (hs.1 5 (by decide)).1 (hs.1 5 (by decide)).2.1 (hs.2 5 2 rfl) ?_
      refine ea_bipush (pc := 82) dX1_comes_82 (v := 8) rfl ?_
      refine ea_iload_n (pc := 84) dX1_comes_84 rfl 2 rfl ?_
      refine ea_imul (pc := 85) dX1_comes_85 ?_
      refine ea_iload (pc := 86) dX1_comes_86 3 rfl ?_
      refine ea_iadd (pc := 88) dX1_comes_88 ?_
      obtain ⟨z10, E⟩ := gd_some E
      refine ea_iald (pc := 89) dX1_comes_89 (hs.1 7 (by decide)).1 (hs.1 7 (by decide)).2.1 (ea_vpl (hs.1 7 (by decide)).2.2 z10) ?_
      refine ea_istore (pc := 90) (lv' := [(0, vR (some (b0 + 32))), (2, vI x2), (4, vI x4), (5, vI x5), (6, vI sx0), (7, vI (ea_i h (b0 + 7) (Int32.toNatClampNeg (((8 : Int32) * x3) + x4))))]) dX1_comes_90 (Nat.le_of_ble_eq_true rfl) [1, 2, 4, 5, 6, 0] rfl ?_
      refine ea_iconst (pc := 92) dX1_comes_92 (v := 0) rfl ?_
      refine ea_istore (pc := 93) (lv' := [(0, vR (some (b0 + 32))), (2, vI x2), (4, vI x4), (5, vI x5), (6, vI sx0), (7, vI (ea_i h (b0 + 7) (Int32.toNatClampNeg (((8 : Int32) * x3) + x4)))), (8, vI 0)]) dX1_comes_93 (Nat.le_of_ble_eq_true rfl) [1, 2, 3, 4, 5, 6, 0] rfl ?_
      exact ((ih 95 0 0 (x2 : Int32) 0 (x4 : Int32) (x5 : Int32) (sx0 : Int32) ((ea_i h (b0 + 7) (Int32.toNatClampNeg (((8 : Int32) * x3) + x4))) : Int32) (0 : Int32) h _ _ E hs).2.2.1 rfl)
    refine ⟨?_, ?_⟩
    · intro el
      subst el
      have E := (if_neg (by decide)).symm.trans E
      have E := (if_neg (by decide)).symm.trans E
      have E := (if_pos rfl).symm.trans E
      refine ea_iload (pc := 95) dX1_comes_95 6 rfl ?_
      refine ea_aload_n (pc := 97) dX1_comes_97 rfl 0 rfl ?_
      refine ea_getI (pc := 98) dX1_comes_98 ec_1 (k := 0) (Nat.le_of_ble_eq_true rfl) rfl (Or.inl ew_359) (hs.1 32 (by decide)).1 (hs.1 32 (by decide)).2.1 ?_
      refine ea_icmp_ge (pc := 101) (tgt := 209) dX1_comes_101 rfl (fun c16 => ?_) (fun c16 => ?_)
      · have E := (if_pos c16).symm.trans E
        exact ea_vretO (pc := 209) dX1_comes_209 rfl E
      · have E := (if_neg c16).symm.trans E
        refine ea_iload (pc := 104) dX1_comes_104 4 rfl ?_
        refine ea_if_ne (pc := 106) (tgt := 131) dX1_comes_106 rfl (fun c15 => ?_) (fun c15 => ?_)
        · have E := (if_neg c15).symm.trans E
          refine ea_iconst (pc := 131) dX1_comes_131 (v := 1) rfl ?_
          refine ea_goto (pc := 132) (tgt := 136) dX1_comes_132 rfl ?_
          exact ((ih 136 (1 : Int32) 0 (x2 : Int32) 0 (x4 : Int32) (x5 : Int32) (x6 : Int32) (x7 : Int32) (x8 : Int32) h _ _ E hs).2.2.2.1 rfl)
        · have E := (if_pos c15).symm.trans E
          refine ea_aload_n (pc := 109) dX1_comes_109 rfl 0 rfl ?_
          refine ea_getR (pc := 110) dX1_comes_110 ec_1 (k := 5) (Nat.le_of_ble_eq_true rfl) rfl (Or.inl ew_369) (hs.1 32 (by decide)).1 (hs.1 32 (by decide)).2.1 (hs.2 32 5 rfl) ?_
          refine ea_iload (pc := 113) dX1_comes_113 6 rfl ?_
          obtain ⟨z11, E⟩ := gd_some E
          refine ea_zald (pc := 115) dX1_comes_115 (hs.1 37 (by decide)).1 (hs.1 37 (by decide)).2.1 (ea_vpl (hs.1 37 (by decide)).2.2 z11) ?_
          refine ea_if_eq (pc := 116) (tgt := 135) dX1_comes_116 rfl (fun c14 => ?_) (fun c14 => ?_)
          · have E := (if_pos c14).symm.trans E
            refine ea_iconst (pc := 135) dX1_comes_135 (v := 0) rfl ?_
            exact ((ih 136 (0 : Int32) 0 (x2 : Int32) 0 (x4 : Int32) (x5 : Int32) (x6 : Int32) (x7 : Int32) (x8 : Int32) h _ _ E hs).2.2.2.1 rfl)
          · have E := (if_neg c14).symm.trans E
            refine ea_aload_n (pc := 119) dX1_comes_119 rfl 0 rfl ?_
            refine ea_getR (pc := 120) dX1_comes_120 ec_1 (k := 3) (Nat.le_of_ble_eq_true rfl) rfl (Or.inl ew_365) (hs.1 32 (by decide)).1 (hs.1 32 (by decide)).2.1 (hs.2 32 3 rfl) ?_
            refine ea_iload (pc := 123) dX1_comes_123 6 rfl ?_
            obtain ⟨z12, E⟩ := gd_some E
            refine ea_iald (pc := 125) dX1_comes_125 (hs.1 35 (by decide)).1 (hs.1 35 (by decide)).2.1 (ea_vpl (hs.1 35 (by decide)).2.2 z12) ?_
            refine ea_iload (pc := 126) dX1_comes_126 2 rfl ?_
            refine ea_icmp_gt (pc := 128) (tgt := 135) dX1_comes_128 rfl (fun c13 => ?_) (fun c13 => ?_)
            · have E := (if_pos c13).symm.trans E
              refine ea_iconst (pc := 135) dX1_comes_135 (v := 0) rfl ?_
              exact ((ih 136 (0 : Int32) 0 (x2 : Int32) 0 (x4 : Int32) (x5 : Int32) (x6 : Int32) (x7 : Int32) (x8 : Int32) h _ _ E hs).2.2.2.1 rfl)
            · have E := (if_neg c13).symm.trans E
              refine ea_iconst (pc := 131) dX1_comes_131 (v := 1) rfl ?_
              refine ea_goto (pc := 132) (tgt := 136) dX1_comes_132 rfl ?_
              exact ((ih 136 (1 : Int32) 0 (x2 : Int32) 0 (x4 : Int32) (x5 : Int32) (x6 : Int32) (x7 : Int32) (x8 : Int32) h _ _ E hs).2.2.2.1 rfl)
    refine ⟨?_, ?_⟩
    · intro el
      subst el
      have E := (if_neg (by decide)).symm.trans E
      have E := (if_neg (by decide)).symm.trans E
      have E := (if_neg (by decide)).symm.trans E
      have E := (if_pos rfl).symm.trans E
      refine ea_istore (pc := 136) (lv' := [(0, vR (some (b0 + 32))), (2, vI x2), (4, vI x4), (5, vI x5), (6, vI x6), (7, vI x7), (8, vI x8), (9, vI sx0)]) dX1_comes_136 (Nat.le_of_ble_eq_true rfl) [1, 2, 3, 4, 5, 6, 7, 0] rfl ?_
      refine ea_iload (pc := 138) dX1_comes_138 7 rfl ?_
      refine ea_if_eq (pc := 140) (tgt := 203) dX1_comes_140 rfl (fun c29 => ?_) (fun c29 => ?_)
      · have E := (if_pos c29).symm.trans E
        refine ea_iinc (pc := 203) (v := 1) (lv' := [(0, vR (some (b0 + 32))), (2, vI x2), (4, vI x4), (5, vI x5), (6, vI x6), (7, vI x7), (8, vI (x8 + (1 : Int32)))]) dX1_comes_203 6 rfl rfl (Nat.le_of_ble_eq_true rfl) [1, 2, 3, 4, 5, 6, 0] rfl ?_
        refine ea_goto (pc := 206) (tgt := 95) dX1_comes_206 rfl ?_
        exact ((ih 95 0 0 (x2 : Int32) 0 (x4 : Int32) (x5 : Int32) (x6 : Int32) (x7 : Int32) ((x8 + (1 : Int32)) : Int32) h _ _ E hs).2.2.1 rfl)
      · have E := (if_neg c29).symm.trans E
        refine ea_aload_n (pc := 143) dX1_comes_143 rfl 0 rfl ?_
        refine ea_iload (pc := 144) dX1_comes_144 6 rfl ?_
        refine ea_iload (pc := 146) dX1_comes_146 3 rfl ?_
        obtain ⟨z17, E⟩ := gd_some E
        refine ea_callV (pc := 148) (d' := d - 1) (As := [vI x8, vI x5]) (st := []) dX1_comes_148 kX1_isAboard (sX1_isAboard_at32 (d := d - 1) (by omega) hs z17) (by omega) rfl (Nat.le_of_ble_eq_true rfl) ew_704 ew_705 ew_706 (ci := 1) rfl (by decide) (hs.1 32 (by decide)).1 (hs.1 32 (by decide)).2.1 ?_
        refine ea_if_eq (pc := 151) (tgt := 203) dX1_comes_151 rfl (fun c28 => ?_) (fun c28 => ?_)
        · have E := (if_pos c28).symm.trans E
          refine ea_iinc (pc := 203) (v := 1) (lv' := [(0, vR (some (b0 + 32))), (2, vI x2), (4, vI x4), (5, vI x5), (6, vI x6), (7, vI x7), (8, vI (x8 + (1 : Int32)))]) dX1_comes_203 6 rfl rfl (Nat.le_of_ble_eq_true rfl) [1, 2, 3, 4, 5, 6, 0] rfl ?_
          refine ea_goto (pc := 206) (tgt := 95) dX1_comes_206 rfl ?_
          exact ((ih 95 0 0 (x2 : Int32) 0 (x4 : Int32) (x5 : Int32) (x6 : Int32) (x7 : Int32) ((x8 + (1 : Int32)) : Int32) h _ _ E hs).2.2.1 rfl)
        · have E := (if_neg c28).symm.trans E
          refine ea_aload_n (pc := 154) dX1_comes_154 rfl 0 rfl ?_
          refine ea_getR (pc := 155) dX1_comes_155 ec_1 (k := 5) (Nat.le_of_ble_eq_true rfl) rfl (Or.inl ew_369) (hs.1 32 (by decide)).1 (hs.1 32 (by decide)).2.1 (hs.2 32 5 rfl) ?_
          refine ea_iload (pc := 158) dX1_comes_158 6 rfl ?_
          obtain ⟨z18, E⟩ := gd_some E
          refine ea_zald (pc := 160) dX1_comes_160 (hs.1 37 (by decide)).1 (hs.1 37 (by decide)).2.1 (ea_vpl (hs.1 37 (by decide)).2.2 z18) ?_
          refine ea_if_ne (pc := 161) (tgt := 186) dX1_comes_161 rfl (fun c27 => ?_) (fun c27 => ?_)
          · have E := (if_neg c27).symm.trans E
            exact (ea_fewer [0, 1, 2, 3, 4, 5, 6] rfl ((ih 186 0 0 (x2 : Int32) 0 (x4 : Int32) (x5 : Int32) (x6 : Int32) (x7 : Int32) (x8 : Int32) h _ _ E hs).2.2.2.2 rfl))
          · have E := (if_pos c27).symm.trans E
            refine ea_aload_n (pc := 164) dX1_comes_164 rfl 0 rfl ?_
            refine ea_getR (pc := 165) dX1_comes_165 ec_1 (k := 4) (Nat.le_of_ble_eq_true rfl) rfl (Or.inl ew_367) (hs.1 32 (by decide)).1 (hs.1 32 (by decide)).2.1 (hs.2 32 4 rfl) ?_
            refine ea_iload (pc := 168) dX1_comes_168 6 rfl ?_
            refine ea_dup2 (pc := 170) dX1_comes_170 rfl rfl ?_
            obtain ⟨z19, E⟩ := gd_some E
            refine ea_iald (pc := 171) dX1_comes_171 (hs.1 36 (by decide)).1 (hs.1 36 (by decide)).2.1 (ea_vpl (hs.1 36 (by decide)).2.2 z19) ?_
            refine ea_iconst (pc := 172) dX1_comes_172 (v := 1) rfl ?_
            refine ea_iadd (pc := 173) dX1_comes_173 ?_
            obtain ⟨z20, E⟩ := gd_some E
            refine ea_iast (pc := 174) dX1_comes_174 (hs.1 36 (by decide)).1 (hs.1 36 (by decide)).2.1 (ea_vpl (hs.1 36 (by decide)).2.2 z20) ?_
            have hs21 : ShC b0 (ea_wi h (b0 + 36) (Int32.toNatClampNeg x8) ((ea_i h (b0 + 36) (Int32.toNatClampNeg x8)) + (1 : Int32))) := ShC_wi hs
            obtain ⟨H22, eH22, E⟩ := let_some E
            refine ea_nm eH22 ?_
            have hsH22 : ShC b0 H22 := by rw [eH22]; exact hs21
            refine ea_aload_n (pc := 175) dX1_comes_175 rfl 0 rfl ?_
            refine ea_getR (pc := 176) dX1_comes_176 ec_1 (k := 6) (Nat.le_of_ble_eq_true rfl) rfl (Or.inl ew_371) (hsH22.1 32 (by decide)).1 (hsH22.1 32 (by decide)).2.1 (hsH22.2 32 6 rfl) ?_
            refine ea_iload (pc := 179) dX1_comes_179 3 rfl ?_
            refine ea_dup2 (pc := 181) dX1_comes_181 rfl rfl ?_
            obtain ⟨z23, E⟩ := gd_some E
            refine ea_iald (pc := 182) dX1_comes_182 (hsH22.1 38 (by decide)).1 (hsH22.1 38 (by decide)).2.1 (ea_vpl (hsH22.1 38 (by decide)).2.2 z23) ?_
            refine ea_iconst (pc := 183) dX1_comes_183 (v := 1) rfl ?_
            refine ea_iadd (pc := 184) dX1_comes_184 ?_
            obtain ⟨z24, E⟩ := gd_some E
            refine ea_iast (pc := 185) dX1_comes_185 (hsH22.1 38 (by decide)).1 (hsH22.1 38 (by decide)).2.1 (ea_vpl (hsH22.1 38 (by decide)).2.2 z24) ?_
            have hs25 : ShC b0 (ea_wi H22 (b0 + 38) (Int32.toNatClampNeg x5) ((ea_i H22 (b0 + 38) (Int32.toNatClampNeg x5)) + (1 : Int32))) := ShC_wi hsH22
            obtain ⟨H26, eH26, E⟩ := let_some E
            refine ea_nm eH26 ?_
            have hsH26 : ShC b0 H26 := by rw [eH26]; exact hs25
            exact (ea_fewer [0, 1, 2, 3, 4, 5, 6] rfl ((ih 186 0 0 (x2 : Int32) 0 (x4 : Int32) (x5 : Int32) (x6 : Int32) (x7 : Int32) (x8 : Int32) H26 _ _ E hsH26).2.2.2.2 rfl))
    intro el
    subst el
    have E := (if_neg (by decide)).symm.trans E
    have E := (if_neg (by decide)).symm.trans E
    have E := (if_neg (by decide)).symm.trans E
    have E := (if_neg (by decide)).symm.trans E
    have E := (if_pos rfl).symm.trans E
    refine ea_aload_n (pc := 186) dX1_comes_186 rfl 0 rfl ?_
    refine ea_iload (pc := 187) dX1_comes_187 6 rfl ?_
    refine ea_iload_n (pc := 189) dX1_comes_189 rfl 1 rfl ?_
    refine ea_aload_n (pc := 190) dX1_comes_190 rfl 0 rfl ?_
    refine ea_iload (pc := 191) dX1_comes_191 6 rfl ?_
    refine ea_iload (pc := 193) dX1_comes_193 5 rfl ?_
    obtain ⟨z30, E⟩ := gd_some E
    refine ea_callV (pc := 195) (d' := d - 1) (As := [vI x8, vI x7]) (st := [vI x2, vI x8, vR (some (b0 + 32))]) dX1_comes_195 kX1_stateIn (sX1_stateIn_at32 (d := d - 1) (by omega) hs z30) (by omega) rfl (Nat.le_of_ble_eq_true rfl) ew_716 ew_718 ew_15 (ci := 1) rfl (by decide) (hs.1 32 (by decide)).1 (hs.1 32 (by decide)).2.1 ?_
    refine ea_iload (pc := 198) dX1_comes_198 5 rfl ?_
    obtain ⟨z31, E⟩ := gd_some E
    refine ea_callV (pc := 200) (d' := d - 1) (As := [vI x8, vI x2, vI (vX1_stateIn_at32 b0 (x8 : Int32) (x7 : Int32) h), vI x7]) (st := []) dX1_comes_200 kX1_move (sX1_move_at32 (d := d - 1) (by omega) hs z31) (by omega) rfl (Nat.le_of_ble_eq_true rfl) ew_645 ew_646 ew_647 (ci := 1) rfl (by decide) (hs.1 32 (by decide)).1 (hs.1 32 (by decide)).2.1 ?_
    have hs32 : ShC b0 (wX1_move_at32 b0 (x8 : Int32) (x2 : Int32) ((vX1_stateIn_at32 b0 (x8 : Int32) (x7 : Int32) h) : Int32) (x7 : Int32) h) := shX1_move_at32 hs
    obtain ⟨H33, eH33, E⟩ := let_some E
    refine ea_nm eH33 ?_
    have hsH33 : ShC b0 H33 := by rw [eH33]; exact hs32
    refine ea_iinc (pc := 203) (v := 1) (lv' := [(0, vR (some (b0 + 32))), (2, vI x2), (4, vI x4), (5, vI x5), (6, vI x6), (7, vI x7), (8, vI (x8 + (1 : Int32)))]) dX1_comes_203 6 rfl rfl (Nat.le_of_ble_eq_true rfl) [1, 2, 3, 4, 5, 6, 0] rfl ?_
    refine ea_goto (pc := 206) (tgt := 95) dX1_comes_206 rfl ?_
    exact ((ih 95 0 0 (x2 : Int32) 0 (x4 : Int32) (x5 : Int32) (x6 : Int32) (x7 : Int32) ((x8 + (1 : Int32)) : Int32) H33 _ _ E hsH33).2.2.1 rfl)
noncomputable def qX1_comes_at32 (b0 : Nat) (x1 : Int32) (x2 : Int32) (h : ea_H) : Option (Unit × ea_H) := gX1_comes_at32 b0 1000000000 0 0 x1 x2 0 0 0 0 0 0 h
def okX1_comes_at32 (b0 : Nat) (x1 : Int32) (x2 : Int32) (h : ea_H) : Prop := ∃ x, qX1_comes_at32 b0 x1 x2 h = some x
noncomputable def wX1_comes_at32 (b0 : Nat) (x1 : Int32) (x2 : Int32) (h : ea_H) : ea_H := ((qX1_comes_at32 b0 x1 x2 h).getD ((), h)).2
theorem sX1_comes_at32 {d : Nat} {b0 : Nat} {x1 : Int32} {x2 : Int32} {h : ea_H} (hd : 5 ≤ d) (hs : ShC b0 h) (K : okX1_comes_at32 b0 x1 x2 h) : ea_Met mX1_comes d [vR (some (b0 + 32)), vI x1, vI x2] h none (wX1_comes_at32 b0 x1 x2 h) := by
  obtain ⟨⟨x, y⟩, K⟩ := K
  unfold wX1_comes_at32
  rw [K]
  unfold qX1_comes_at32 at K
  exact ea_enter rfl (Nat.le_of_ble_eq_true rfl) ((tX1_comes_at32 hd 1000000000 0 0 x1 x2 0 0 0 0 0 0 h x y K hs).1 rfl)
theorem zX1_comes_at32 {b0 : Nat} : ∀ (f lbl : Nat) (sx0 : Int32) (x1 : Int32) (x2 : Int32) (x3 : Int32) (x4 : Int32) (x5 : Int32) (x6 : Int32) (x7 : Int32) (x8 : Int32) (h : ea_H) (r : Unit) (h' : ea_H), gX1_comes_at32 b0 f lbl sx0 x1 x2 x3 x4 x5 x6 x7 x8 h = some (r, h') → ShC b0 h → ShC b0 h' := by
  intro f
  induction f with
  | zero => intro lbl sx0 x1 x2 x3 x4 x5 x6 x7 x8 h r h' E; cases E
  | succ f ih =>
    intro lbl sx0 x1 x2 x3 x4 x5 x6 x7 x8 h r h' E hs
    unfold gX1_comes_at32 at E
    by_cases el0 : lbl = 0
    · have E := (if_pos el0).symm.trans E
      obtain ⟨z4, E⟩ := gd_some E
      by_cases c9 : (ea_i h (b0 + 41) (Int32.toNatClampNeg (((10 : Int32) * (vX10_dayIn (x1 : Int32) h)) + (vX10_trainIn (x1 : Int32) h)))) = (0 : Int32)
      · have E := (if_pos c9).symm.trans E
        exact ea_shO E hs
      have E := (if_neg c9).symm.trans E
      obtain ⟨z5, E⟩ := gd_some E
      by_cases c8 : (ea_i h (b0 + 12) (Int32.toNatClampNeg (((8 : Int32) * (((10 : Int32) * (vX10_dayIn (x1 : Int32) h)) + (vX10_trainIn (x1 : Int32) h))) + (vX10_stopIn (x1 : Int32) h)))) = (0 : Int32)
      · have E := (if_pos c8).symm.trans E
        obtain ⟨z6, E⟩ := gd_some E
        by_cases c7 : (vX10_stopIn (x1 : Int32) h) = ((ea_i h (b0 + 6) (Int32.toNatClampNeg (vX10_trainIn (x1 : Int32) h))) - (1 : Int32))
        · have E := (if_pos c7).symm.trans E
          exact ih 73 (1 : Int32) 0 (x2 : Int32) ((vX10_trainIn (x1 : Int32) h) : Int32) ((vX10_stopIn (x1 : Int32) h) : Int32) ((((10 : Int32) * (vX10_dayIn (x1 : Int32) h)) + (vX10_trainIn (x1 : Int32) h)) : Int32) 0 0 0 h _ _ E hs
        have E := (if_neg c7).symm.trans E
        exact ih 73 (0 : Int32) 0 (x2 : Int32) ((vX10_trainIn (x1 : Int32) h) : Int32) ((vX10_stopIn (x1 : Int32) h) : Int32) ((((10 : Int32) * (vX10_dayIn (x1 : Int32) h)) + (vX10_trainIn (x1 : Int32) h)) : Int32) 0 0 0 h _ _ E hs
      have E := (if_neg c8).symm.trans E
      exact ea_shO E hs
    have E := (if_neg el0).symm.trans E
    by_cases el1 : lbl = 73
    · have E := (if_pos el1).symm.trans E
      obtain ⟨z10, E⟩ := gd_some E
      exact ih 95 0 0 (x2 : Int32) 0 (x4 : Int32) (x5 : Int32) (sx0 : Int32) ((ea_i h (b0 + 7) (Int32.toNatClampNeg (((8 : Int32) * x3) + x4))) : Int32) (0 : Int32) h _ _ E hs
    have E := (if_neg el1).symm.trans E
    by_cases el2 : lbl = 95
    · have E := (if_pos el2).symm.trans E
      by_cases c16 : (ea_i h (b0 + 32) 0) ≤ x8
      · have E := (if_pos c16).symm.trans E
        exact ea_shO E hs
      have E := (if_neg c16).symm.trans E
      by_cases c15 : x6 = (0 : Int32)
      · have E := (if_pos c15).symm.trans E
        obtain ⟨z11, E⟩ := gd_some E
        by_cases c14 : (ea_i h (b0 + 37) (Int32.toNatClampNeg x8)) = (0 : Int32)
        · have E := (if_pos c14).symm.trans E
          exact ih 136 (0 : Int32) 0 (x2 : Int32) 0 (x4 : Int32) (x5 : Int32) (x6 : Int32) (x7 : Int32) (x8 : Int32) h _ _ E hs
        have E := (if_neg c14).symm.trans E
        obtain ⟨z12, E⟩ := gd_some E
        by_cases c13 : x4 < (ea_i h (b0 + 35) (Int32.toNatClampNeg x8))
        · have E := (if_pos c13).symm.trans E
          exact ih 136 (0 : Int32) 0 (x2 : Int32) 0 (x4 : Int32) (x5 : Int32) (x6 : Int32) (x7 : Int32) (x8 : Int32) h _ _ E hs
        have E := (if_neg c13).symm.trans E
        exact ih 136 (1 : Int32) 0 (x2 : Int32) 0 (x4 : Int32) (x5 : Int32) (x6 : Int32) (x7 : Int32) (x8 : Int32) h _ _ E hs
      have E := (if_neg c15).symm.trans E
      exact ih 136 (1 : Int32) 0 (x2 : Int32) 0 (x4 : Int32) (x5 : Int32) (x6 : Int32) (x7 : Int32) (x8 : Int32) h _ _ E hs
    have E := (if_neg el2).symm.trans E
    by_cases el3 : lbl = 136
    · have E := (if_pos el3).symm.trans E
      by_cases c29 : sx0 = (0 : Int32)
      · have E := (if_pos c29).symm.trans E
        exact ih 95 0 0 (x2 : Int32) 0 (x4 : Int32) (x5 : Int32) (x6 : Int32) (x7 : Int32) ((x8 + (1 : Int32)) : Int32) h _ _ E hs
      have E := (if_neg c29).symm.trans E
      obtain ⟨z17, E⟩ := gd_some E
      by_cases c28 : (vX1_isAboard_at32 b0 (x8 : Int32) (x5 : Int32) h) = (0 : Int32)
      · have E := (if_pos c28).symm.trans E
        exact ih 95 0 0 (x2 : Int32) 0 (x4 : Int32) (x5 : Int32) (x6 : Int32) (x7 : Int32) ((x8 + (1 : Int32)) : Int32) h _ _ E hs
      have E := (if_neg c28).symm.trans E
      obtain ⟨z18, E⟩ := gd_some E
      by_cases c27 : (ea_i h (b0 + 37) (Int32.toNatClampNeg x8)) = (0 : Int32)
      · have E := (if_pos c27).symm.trans E
        obtain ⟨z19, E⟩ := gd_some E
        obtain ⟨z20, E⟩ := gd_some E
        obtain ⟨H22, eH22, E⟩ := let_some E
        have hsH22 : ShC b0 H22 := by rw [eH22]; exact (ShC_wi hs)
        obtain ⟨z23, E⟩ := gd_some E
        obtain ⟨z24, E⟩ := gd_some E
        obtain ⟨H26, eH26, E⟩ := let_some E
        have hsH26 : ShC b0 H26 := by rw [eH26]; exact (ShC_wi hsH22)
        exact ih 186 0 0 (x2 : Int32) 0 (x4 : Int32) (x5 : Int32) (x6 : Int32) (x7 : Int32) (x8 : Int32) H26 _ _ E hsH26
      have E := (if_neg c27).symm.trans E
      exact ih 186 0 0 (x2 : Int32) 0 (x4 : Int32) (x5 : Int32) (x6 : Int32) (x7 : Int32) (x8 : Int32) h _ _ E hs
    have E := (if_neg el3).symm.trans E
    by_cases el4 : lbl = 186
    · have E := (if_pos el4).symm.trans E
      obtain ⟨z30, E⟩ := gd_some E
      obtain ⟨z31, E⟩ := gd_some E
      obtain ⟨H33, eH33, E⟩ := let_some E
      have hsH33 : ShC b0 H33 := by rw [eH33]; exact (shX1_move_at32 hs)
      exact ih 95 0 0 (x2 : Int32) 0 (x4 : Int32) (x5 : Int32) (x6 : Int32) (x7 : Int32) ((x8 + (1 : Int32)) : Int32) H33 _ _ E hsH33
    have E := (if_neg el4).symm.trans E
    cases E
theorem shX1_comes_at32 {b0 : Nat} {x1 : Int32} {x2 : Int32} {h : ea_H} (hs : ShC b0 h) : ShC b0 (wX1_comes_at32 b0 x1 x2 h) := by
  unfold wX1_comes_at32
  cases K : qX1_comes_at32 b0 x1 x2 h with
  | none => exact hs
  | some x => obtain ⟨x, y⟩ := x; unfold qX1_comes_at32 at K; exact zX1_comes_at32 _ _ _ _ _ _ _ _ _ _ _ _ _ _ K hs
noncomputable def gX1_comes_at42 (b0 : Nat) : Nat → Nat → Int32 → Int32 → Int32 → Int32 → Int32 → Int32 → Int32 → Int32 → Int32 → ea_H → Option (Unit × ea_H)
  | 0, _, _, _, _, _, _, _, _, _, _, _ => none
  | f + 1, lbl, sx0, x1, x2, x3, x4, x5, x6, x7, x8, h =>
    if lbl = 0 then (gd (vp_in (((10 : Int32) * (vX10_dayIn (x1 : Int32) h)) + (vX10_trainIn (x1 : Int32) h)) 70) (if (ea_i h (b0 + 51) (Int32.toNatClampNeg (((10 : Int32) * (vX10_dayIn (x1 : Int32) h)) + (vX10_trainIn (x1 : Int32) h)))) = (0 : Int32) then (some ((), h)) else (gd (vp_in (((8 : Int32) * (((10 : Int32) * (vX10_dayIn (x1 : Int32) h)) + (vX10_trainIn (x1 : Int32) h))) + (vX10_stopIn (x1 : Int32) h)) 560) (if (ea_i h (b0 + 12) (Int32.toNatClampNeg (((8 : Int32) * (((10 : Int32) * (vX10_dayIn (x1 : Int32) h)) + (vX10_trainIn (x1 : Int32) h))) + (vX10_stopIn (x1 : Int32) h)))) = (0 : Int32) then (gd (vp_in (vX10_trainIn (x1 : Int32) h) 10) (if (vX10_stopIn (x1 : Int32) h) = ((ea_i h (b0 + 6) (Int32.toNatClampNeg (vX10_trainIn (x1 : Int32) h))) - (1 : Int32)) then (gX1_comes_at42 b0 f 73 (1 : Int32) 0 (x2 : Int32) ((vX10_trainIn (x1 : Int32) h) : Int32) ((vX10_stopIn (x1 : Int32) h) : Int32) ((((10 : Int32) * (vX10_dayIn (x1 : Int32) h)) + (vX10_trainIn (x1 : Int32) h)) : Int32) 0 0 0 h) else (gX1_comes_at42 b0 f 73 (0 : Int32) 0 (x2 : Int32) ((vX10_trainIn (x1 : Int32) h) : Int32) ((vX10_stopIn (x1 : Int32) h) : Int32) ((((10 : Int32) * (vX10_dayIn (x1 : Int32) h)) + (vX10_trainIn (x1 : Int32) h)) : Int32) 0 0 0 h))) else (some ((), h)))))) else
    if lbl = 73 then (gd (vp_in (((8 : Int32) * x3) + x4) 80) (gX1_comes_at42 b0 f 95 0 0 (x2 : Int32) 0 (x4 : Int32) (x5 : Int32) (sx0 : Int32) ((ea_i h (b0 + 7) (Int32.toNatClampNeg (((8 : Int32) * x3) + x4))) : Int32) (0 : Int32) h)) else
    if lbl = 95 then (if (ea_i h (b0 + 42) 0) ≤ x8 then (some ((), h)) else (if x6 = (0 : Int32) then (gd (vp_in x8 120) (if (ea_i h (b0 + 47) (Int32.toNatClampNeg x8)) = (0 : Int32) then (gX1_comes_at42 b0 f 136 (0 : Int32) 0 (x2 : Int32) 0 (x4 : Int32) (x5 : Int32) (x6 : Int32) (x7 : Int32) (x8 : Int32) h) else (gd (vp_in x8 120) (if x4 < (ea_i h (b0 + 45) (Int32.toNatClampNeg x8)) then (gX1_comes_at42 b0 f 136 (0 : Int32) 0 (x2 : Int32) 0 (x4 : Int32) (x5 : Int32) (x6 : Int32) (x7 : Int32) (x8 : Int32) h) else (gX1_comes_at42 b0 f 136 (1 : Int32) 0 (x2 : Int32) 0 (x4 : Int32) (x5 : Int32) (x6 : Int32) (x7 : Int32) (x8 : Int32) h))))) else (gX1_comes_at42 b0 f 136 (1 : Int32) 0 (x2 : Int32) 0 (x4 : Int32) (x5 : Int32) (x6 : Int32) (x7 : Int32) (x8 : Int32) h))) else
    if lbl = 136 then (if sx0 = (0 : Int32) then (gX1_comes_at42 b0 f 95 0 0 (x2 : Int32) 0 (x4 : Int32) (x5 : Int32) (x6 : Int32) (x7 : Int32) ((x8 + (1 : Int32)) : Int32) h) else (gd ((okX1_isAboard_at42 b0 (x8 : Int32) (x5 : Int32) h)) (if (vX1_isAboard_at42 b0 (x8 : Int32) (x5 : Int32) h) = (0 : Int32) then (gX1_comes_at42 b0 f 95 0 0 (x2 : Int32) 0 (x4 : Int32) (x5 : Int32) (x6 : Int32) (x7 : Int32) ((x8 + (1 : Int32)) : Int32) h) else (gd (vp_in x8 120) (if (ea_i h (b0 + 47) (Int32.toNatClampNeg x8)) = (0 : Int32) then (gd (vp_in x8 120) (gd (vp_in x8 120) (ea_let (ea_wi h (b0 + 46) (Int32.toNatClampNeg x8) ((ea_i h (b0 + 46) (Int32.toNatClampNeg x8)) + (1 : Int32))) fun H22 => (gd (vp_in x5 70) (gd (vp_in x5 70) (ea_let (ea_wi H22 (b0 + 48) (Int32.toNatClampNeg x5) ((ea_i H22 (b0 + 48) (Int32.toNatClampNeg x5)) + (1 : Int32))) fun H26 => (gX1_comes_at42 b0 f 186 0 0 (x2 : Int32) 0 (x4 : Int32) (x5 : Int32) (x6 : Int32) (x7 : Int32) (x8 : Int32) H26))))))) else (gX1_comes_at42 b0 f 186 0 0 (x2 : Int32) 0 (x4 : Int32) (x5 : Int32) (x6 : Int32) (x7 : Int32) (x8 : Int32) h)))))) else
    if lbl = 186 then (gd ((okX1_stateIn_at42 b0 (x8 : Int32) (x7 : Int32) h)) (gd ((okX1_move_at42 b0 (x8 : Int32) (x2 : Int32) ((vX1_stateIn_at42 b0 (x8 : Int32) (x7 : Int32) h) : Int32) (x7 : Int32) h)) (ea_let (wX1_move_at42 b0 (x8 : Int32) (x2 : Int32) ((vX1_stateIn_at42 b0 (x8 : Int32) (x7 : Int32) h) : Int32) (x7 : Int32) h) fun H33 => (gX1_comes_at42 b0 f 95 0 0 (x2 : Int32) 0 (x4 : Int32) (x5 : Int32) (x6 : Int32) (x7 : Int32) ((x8 + (1 : Int32)) : Int32) H33)))) else none
theorem tX1_comes_at42 {d : Nat} {b0 : Nat} {h0 : ea_H} (hd : 5 ≤ d) : ∀ (f lbl : Nat) (sx0 : Int32) (x1 : Int32) (x2 : Int32) (x3 : Int32) (x4 : Int32) (x5 : Int32) (x6 : Int32) (x7 : Int32) (x8 : Int32) (h : ea_H) (r : Unit) (h' : ea_H), gX1_comes_at42 b0 f lbl sx0 x1 x2 x3 x4 x5 x6 x7 x8 h = some (r, h') → ShC b0 h → (lbl = 0 → ea_W mX1_comes d h0 none h' 0 [(0, vR (some (b0 + 42))), (1, vI x1), (2, vI x2)] [] h) ∧ (lbl = 73 → ea_W mX1_comes d h0 none h' 73 [(0, vR (some (b0 + 42))), (2, vI x2), (3, vI x3), (4, vI x4), (5, vI x5)] [vI sx0] h) ∧ (lbl = 95 → ea_W mX1_comes d h0 none h' 95 [(0, vR (some (b0 + 42))), (2, vI x2), (4, vI x4), (5, vI x5), (6, vI x6), (7, vI x7), (8, vI x8)] [] h) ∧ (lbl = 136 → ea_W mX1_comes d h0 none h' 136 [(0, vR (some (b0 + 42))), (2, vI x2), (4, vI x4), (5, vI x5), (6, vI x6), (7, vI x7), (8, vI x8)] [vI sx0] h) ∧ (lbl = 186 → ea_W mX1_comes d h0 none h' 186 [(0, vR (some (b0 + 42))), (2, vI x2), (4, vI x4), (5, vI x5), (6, vI x6), (7, vI x7), (8, vI x8)] [] h) := by
  intro f
  induction f with
  | zero => intro lbl sx0 x1 x2 x3 x4 x5 x6 x7 x8 h r h' E; cases E
  | succ f ih =>
    intro lbl sx0 x1 x2 x3 x4 x5 x6 x7 x8 h r h' E hs
    unfold gX1_comes_at42 at E
    refine ⟨?_, ?_⟩
    · intro el
      subst el
      have E := (if_pos rfl).symm.trans E
      refine ea_iload_n (pc := 0) dX1_comes_0 rfl 1 rfl ?_
      refine ea_callS (pc := 1) (d' := d - 1) (As := [vI x1]) (st := []) dX1_comes_1 kX10_trainIn (sX10_trainIn (d := d - 1) (by omega)) (by omega) rfl (Nat.le_of_ble_eq_true rfl) ew_670 ew_597 ?_
      refine ea_istore_n (pc := 4) (lv' := [(0, vR (some (b0 + 42))), (1, vI x1), (2, vI x2), (3, vI (vX10_trainIn (x1 : Int32) h))]) dX1_comes_4 rfl (Nat.le_of_ble_eq_true rfl) [1, 2, 3, 0] rfl ?_
      refine ea_iload_n (pc := 5) dX1_comes_5 rfl 1 rfl ?_
      refine ea_callS (pc := 6) (d' := d - 1) (As := [vI x1]) (st := []) dX1_comes_6 kX10_stopIn (sX10_stopIn (d := d - 1) (by omega)) (by omega) rfl (Nat.le_of_ble_eq_true rfl) ew_671 ew_600 ?_
      refine ea_istore (pc := 9) (lv' := [(0, vR (some (b0 + 42))), (1, vI x1), (2, vI x2), (3, vI (vX10_trainIn (x1 : Int32) h)), (4, vI (vX10_stopIn (x1 : Int32) h))]) dX1_comes_9 (Nat.le_of_ble_eq_true rfl) [1, 2, 3, 4, 0] rfl ?_
      refine ea_bipush (pc := 11) dX1_comes_11 (v := 10) rfl ?_
      refine ea_iload_n (pc := 13) dX1_comes_13 rfl 1 rfl ?_
      refine ea_callS (pc := 14) (d' := d - 1) (As := [vI x1]) (st := [vI 10]) dX1_comes_14 kX10_dayIn (sX10_dayIn (d := d - 1) (by omega)) (by omega) rfl (Nat.le_of_ble_eq_true rfl) ew_672 ew_609 ?_
      refine ea_imul (pc := 17) dX1_comes_17 ?_
      refine ea_iload_n (pc := 18) dX1_comes_18 rfl 3 rfl ?_
      refine ea_iadd (pc := 19) dX1_comes_19 ?_
      refine ea_istore (pc := 20) (lv' := [(0, vR (some (b0 + 42))), (2, vI x2), (3, vI (vX10_trainIn (x1 : Int32) h)), (4, vI (vX10_stopIn (x1 : Int32) h)), (5, vI (((10 : Int32) * (vX10_dayIn (x1 : Int32) h)) + (vX10_trainIn (x1 : Int32) h)))]) dX1_comes_20 (Nat.le_of_ble_eq_true rfl) [1, 3, 4, 5, 0] rfl ?_
      refine ea_aload_n (pc := 22) dX1_comes_22 rfl 0 rfl ?_
      refine ea_getR (pc := 23) dX1_comes_23 ec_1 (k := 9) (Nat.le_of_ble_eq_true rfl) rfl (Or.inl ew_375) (hs.1 42 (by decide)).1 (hs.1 42 (by decide)).2.1 (hs.2 42 9 rfl) ?_
      refine ea_iload (pc := 26) dX1_comes_26 4 rfl ?_
      obtain ⟨z4, E⟩ := gd_some E
      refine ea_iald (pc := 28) dX1_comes_28 (hs.1 51 (by decide)).1 (hs.1 51 (by decide)).2.1 (ea_vpl (hs.1 51 (by decide)).2.2 z4) ?_
      refine ea_if_eq (pc := 29) (tgt := 51) dX1_comes_29 rfl (fun c9 => ?_) (fun c9 => ?_)
      · have E := (if_pos c9).symm.trans E
        exact ea_vretO (pc := 51) dX1_comes_51 rfl E
      · have E := (if_neg c9).symm.trans E
        refine ea_aload_n (pc := 32) dX1_comes_32 rfl 0 rfl ?_
        refine ea_getR (pc := 33) dX1_comes_33 ec_1 (k := 11) (Nat.le_of_ble_eq_true rfl) rfl (Or.inl ew_377) (hs.1 42 (by decide)).1 (hs.1 42 (by decide)).2.1 (hs.2 42 11 rfl) ?_
        refine ea_getR (pc := 36) dX1_comes_36 ec_9 (k := 7) (Nat.le_of_ble_eq_true rfl) rfl (Or.inl ew_200) (hs.1 5 (by decide)).1 (hs.1 5 (by decide)).2.1 (hs.2 5 7 rfl) ?_
        refine ea_bipush (pc := 39) dX1_comes_39 (v := 8) rfl ?_
        refine ea_iload (pc := 41) dX1_comes_41 4 rfl ?_
        refine ea_imul (pc := 43) dX1_comes_43 ?_
        refine ea_iload (pc := 44) dX1_comes_44 3 rfl ?_
        refine ea_iadd (pc := 46) dX1_comes_46 ?_
        obtain ⟨z5, E⟩ := gd_some E
        refine ea_zald (pc := 47) dX1_comes_47 (hs.1 12 (by decide)).1 (hs.1 12 (by decide)).2.1 (ea_vpl (hs.1 12 (by decide)).2.2 z5) ?_
        refine ea_if_eq (pc := 48) (tgt := 52) dX1_comes_48 rfl (fun c8 => ?_) (fun c8 => ?_)
        · have E := (if_pos c8).symm.trans E
          refine ea_iload (pc := 52) dX1_comes_52 3 rfl ?_
          refine ea_aload_n (pc := 54) dX1_comes_54 rfl 0 rfl ?_
          refine ea_getR (pc := 55) dX1_comes_55 ec_1 (k := 11) (Nat.le_of_ble_eq_true rfl) rfl (Or.inl ew_377) (hs.1 42 (by decide)).1 (hs.1 42 (by decide)).2.1 (hs.2 42 11 rfl) ?_
          refine ea_getR (pc := 58) dX1_comes_58 ec_9 (k := 1) (Nat.le_of_ble_eq_true rfl) rfl (Or.inl ew_182) (hs.1 5 (by decide)).1 (hs.1 5 (by decide)).2.1 (hs.2 5 1 rfl) ?_
          refine ea_iload_n (pc := 61) dX1_comes_61 rfl 2 rfl ?_
          obtain ⟨z6, E⟩ := gd_some E
          refine ea_iald (pc := 62) dX1_comes_62 (hs.1 6 (by decide)).1 (hs.1 6 (by decide)).2.1 (ea_vpl (hs.1 6 (by decide)).2.2 z6) ?_
          refine ea_iconst (pc := 63) dX1_comes_63 (v := 1) rfl ?_
          refine ea_isub (pc := 64) dX1_comes_64 ?_
          refine ea_icmp_ne (pc := 65) (tgt := 72) dX1_comes_65 rfl (fun c7 => ?_) (fun c7 => ?_)
          · have E := (if_neg c7).symm.trans E
            refine ea_iconst (pc := 72) dX1_comes_72 (v := 0) rfl ?_
            exact ((ih 73 (0 : Int32) 0 (x2 : Int32) ((vX10_trainIn (x1 : Int32) h) : Int32) ((vX10_stopIn (x1 : Int32) h) : Int32) ((((10 : Int32) * (vX10_dayIn (x1 : Int32) h)) + (vX10_trainIn (x1 : Int32) h)) : Int32) 0 0 0 h _ _ E hs).2.1 rfl)
          · have E := (if_pos c7).symm.trans E
            refine ea_iconst (pc := 68) dX1_comes_68 (v := 1) rfl ?_
            refine ea_goto (pc := 69) (tgt := 73) dX1_comes_69 rfl ?_
            exact ((ih 73 (1 : Int32) 0 (x2 : Int32) ((vX10_trainIn (x1 : Int32) h) : Int32) ((vX10_stopIn (x1 : Int32) h) : Int32) ((((10 : Int32) * (vX10_dayIn (x1 : Int32) h)) + (vX10_trainIn (x1 : Int32) h)) : Int32) 0 0 0 h _ _ E hs).2.1 rfl)
        · have E := (if_neg c8).symm.trans E
          exact ea_vretO (pc := 51) dX1_comes_51 rfl E
    refine ⟨?_, ?_⟩
    · intro el
      subst el
      have E := (if_neg (by decide)).symm.trans E
      have E := (if_pos rfl).symm.trans E
      refine ea_istore (pc := 73) (lv' := [(0, vR (some (b0 + 42))), (2, vI x2), (3, vI x3), (4, vI x4), (5, vI x5), (6, vI sx0)]) dX1_comes_73 (Nat.le_of_ble_eq_true rfl) [1, 2, 3, 4, 5, 0] rfl ?_
      refine ea_aload_n (pc := 75) dX1_comes_75 rfl 0 rfl ?_
      refine ea_getR (pc := 76) dX1_comes_76 ec_1 (k := 11) (Nat.le_of_ble_eq_true rfl) rfl (Or.inl ew_377) (hs.1 42 (by decide)).1 (hs.1 42 (by decide)).2.1 (hs.2 42 11 rfl) ?_
      refine ea_getR (pc := 79) dX1_comes_79 ec_9 (k := 2) (Nat.le_of_ble_eq_true rfl) rfl (Or.inl ew_186) (hs.1 5 (by decide)).1 (hs.1 5 (by decide)).2.1 (hs.2 5 2 rfl) ?_
      refine ea_bipush (pc := 82) dX1_comes_82 (v := 8) rfl ?_
      refine ea_iload_n (pc := 84) dX1_comes_84 rfl 2 rfl ?_
      refine ea_imul (pc := 85) dX1_comes_85 ?_
      refine ea_iload (pc := 86) dX1_comes_86 3 rfl ?_
      refine ea_iadd (pc := 88) dX1_comes_88 ?_
      obtain ⟨z10, E⟩ := gd_some E
      refine ea_iald (pc := 89) dX1_comes_89 (hs.1 7 (by decide)).1 (hs.1 7 (by decide)).2.1 (ea_vpl (hs.1 7 (by decide)).2.2 z10) ?_
      refine ea_istore (pc := 90) (lv' := [(0, vR (some (b0 + 42))), (2, vI x2), (4, vI x4), (5, vI x5), (6, vI sx0), (7, vI (ea_i h (b0 + 7) (Int32.toNatClampNeg (((8 : Int32) * x3) + x4))))]) dX1_comes_90 (Nat.le_of_ble_eq_true rfl) [1, 2, 4, 5, 6, 0] rfl ?_
      refine ea_iconst (pc := 92) dX1_comes_92 (v := 0) rfl ?_
      refine ea_istore (pc := 93) (lv' := [(0, vR (some (b0 + 42))), (2, vI x2), (4, vI x4), (5, vI x5), (6, vI sx0), (7, vI (ea_i h (b0 + 7) (Int32.toNatClampNeg (((8 : Int32) * x3) + x4)))), (8, vI 0)]) dX1_comes_93 (Nat.le_of_ble_eq_true rfl) [1, 2, 3, 4, 5, 6, 0] rfl ?_
      exact ((ih 95 0 0 (x2 : Int32) 0 (x4 : Int32) (x5 : Int32) (sx0 : Int32) ((ea_i h (b0 + 7) (Int32.toNatClampNeg (((8 : Int32) * x3) + x4))) : Int32) (0 : Int32) h _ _ E hs).2.2.1 rfl)
    refine ⟨?_, ?_⟩
    · intro el
      subst el
      have E := (if_neg (by decide)).symm.trans E
      have E := (if_neg (by decide)).symm.trans E
      have E := (if_pos rfl).symm.trans E
      refine ea_iload (pc := 95) dX1_comes_95 6 rfl ?_
      refine ea_aload_n (pc := 97) dX1_comes_97 rfl 0 rfl ?_
      refine ea_getI (pc := 98) dX1_comes_98 ec_1 (k := 0) (Nat.le_of_ble_eq_true rfl) rfl (Or.inl ew_359) (hs.1 42 (by decide)).1 (hs.1 42 (by decide)).2.1 ?_
      refine ea_icmp_ge (pc := 101) (tgt := 209) dX1_comes_101 rfl (fun c16 => ?_) (fun c16 => ?_)
      · have E := (if_pos c16).symm.trans E
        exact ea_vretO (pc := 209) dX1_comes_209 rfl E
      · have E := (if_neg c16).symm.trans E
        refine ea_iload (pc := 104) dX1_comes_104 4 rfl ?_
        refine ea_if_ne (pc := 106) (tgt := 131) dX1_comes_106 rfl (fun c15 => ?_) (fun c15 => ?_)
        · have E := (if_neg c15).symm.trans E
          refine ea_iconst (pc := 131) dX1_comes_131 (v := 1) rfl ?_
          refine ea_goto (pc := 132) (tgt := 136) dX1_comes_132 rfl ?_
          exact ((ih 136 (1 : Int32) 0 (x2 : Int32) 0 (x4 : Int32) (x5 : Int32) (x6 : Int32) (x7 : Int32) (x8 : Int32) h _ _ E hs).2.2.2.1 rfl)
        · have E := (if_pos c15).symm.trans E
          refine ea_aload_n (pc := 109) dX1_comes_109 rfl 0 rfl ?_
          refine ea_getR (pc := 110) dX1_comes_110 ec_1 (k := 5) (Nat.le_of_ble_eq_true rfl) rfl (Or.inl ew_369) (hs.1 42 (by decide)).1 (hs.1 42 (by decide)).2.1 (hs.2 42 5 rfl) ?_
          refine ea_iload (pc := 113) dX1_comes_113 6 rfl ?_
          obtain ⟨z11, E⟩ := gd_some E
          refine ea_zald (pc := 115) dX1_comes_115 (hs.1 47 (by decide)).1 (hs.1 47 (by decide)).2.1 (ea_vpl (hs.1 47 (by decide)).2.2 z11) ?_
          refine ea_if_eq (pc := 116) (tgt := 135) dX1_comes_116 rfl (fun c14 => ?_) (fun c14 => ?_)
          · have E := (if_pos c14).symm.trans E
            refine ea_iconst (pc := 135) dX1_comes_135 (v := 0) rfl ?_
            exact ((ih 136 (0 : Int32) 0 (x2 : Int32) 0 (x4 : Int32) (x5 : Int32) (x6 : Int32) (x7 : Int32) (x8 : Int32) h _ _ E hs).2.2.2.1 rfl)
          · have E := (if_neg c14).symm.trans E
            refine ea_aload_n (pc := 119) dX1_comes_119 rfl 0 rfl ?_
            refine ea_getR (pc := 120) dX1_comes_120 ec_1 (k := 3) (Nat.le_of_ble_eq_true rfl) rfl (Or.inl ew_365) (hs.1 42 (by decide)).1 (hs.1 42 (by decide)).2.1 (hs.2 42 3 rfl) ?_
            refine ea_iload (pc := 123) dX1_comes_123 6 rfl ?_
            obtain ⟨z12, E⟩ := gd_some E
            refine ea_iald (pc := 125) dX1_comes_125 (hs.1 45 (by decide)).1 (hs.1 45 (by decide)).2.1 (ea_vpl (hs.1 45 (by decide)).2.2 z12) ?_
            refine ea_iload (pc := 126) dX1_comes_126 2 rfl ?_
            refine ea_icmp_gt (pc := 128) (tgt := 135) dX1_comes_128 rfl (fun c13 => ?_) (fun c13 => ?_)
            · have E := (if_pos c13).symm.trans E
              refine ea_iconst (pc := 135) dX1_comes_135 (v := 0) rfl ?_
              exact ((ih 136 (0 : Int32) 0 (x2 : Int32) 0 (x4 : Int32) (x5 : Int32) (x6 : Int32) (x7 : Int32) (x8 : Int32) h _ _ E hs).2.2.2.1 rfl)
            · have E := (if_neg c13).symm.trans E
              refine ea_iconst (pc := 131) dX1_comes_131 (v := 1) rfl ?_
              refine ea_goto (pc := 132) (tgt := 136) dX1_comes_132 rfl ?_
              exact ((ih 136 (1 : Int32) 0 (x2 : Int32) 0 (x4 : Int32) (x5 : Int32) (x6 : Int32) (x7 : Int32) (x8 : Int32) h _ _ E hs).2.2.2.1 rfl)
    refine ⟨?_, ?_⟩
    · intro el
      subst el
      have E := (if_neg (by decide)).symm.trans E
      have E := (if_neg (by decide)).symm.trans E
      have E := (if_neg (by decide)).symm.trans E
      have E := (if_pos rfl).symm.trans E
      refine ea_istore (pc := 136) (lv' := [(0, vR (some (b0 + 42))), (2, vI x2), (4, vI x4), (5, vI x5), (6, vI x6), (7, vI x7), (8, vI x8), (9, vI sx0)]) dX1_comes_136 (Nat.le_of_ble_eq_true rfl) [1, 2, 3, 4, 5, 6, 7, 0] rfl ?_
      refine ea_iload (pc := 138) dX1_comes_138 7 rfl ?_
      refine ea_if_eq (pc := 140) (tgt := 203) dX1_comes_140 rfl (fun c29 => ?_) (fun c29 => ?_)
      · have E := (if_pos c29).symm.trans E
        refine ea_iinc (pc := 203) (v := 1) (lv' := [(0, vR (some (b0 + 42))), (2, vI x2), (4, vI x4), (5, vI x5), (6, vI x6), (7, vI x7), (8, vI (x8 + (1 : Int32)))]) dX1_comes_203 6 rfl rfl (Nat.le_of_ble_eq_true rfl) [1, 2, 3, 4, 5, 6, 0] rfl ?_
        refine ea_goto (pc := 206) (tgt := 95) dX1_comes_206 rfl ?_
        exact ((ih 95 0 0 (x2 : Int32) 0 (x4 : Int32) (x5 : Int32) (x6 : Int32) (x7 : Int32) ((x8 + (1 : Int32)) : Int32) h _ _ E hs).2.2.1 rfl)
      · have E := (if_neg c29).symm.trans E
        refine ea_aload_n (pc := 143) dX1_comes_143 rfl 0 rfl ?_
        refine ea_iload (pc := 144) dX1_comes_144 6 rfl ?_
        refine ea_iload (pc := 146) dX1_comes_146 3 rfl ?_
        obtain ⟨z17, E⟩ := gd_some E
        refine ea_callV (pc := 148) (d' := d - 1) (As := [vI x8, vI x5]) (st := []) dX1_comes_148 kX1_isAboard (sX1_isAboard_at42 (d := d - 1) (by omega) hs z17) (by omega) rfl (Nat.le_of_ble_eq_true rfl) ew_704 ew_705 ew_706 (ci := 1) rfl (by decide) (hs.1 42 (by decide)).1 (hs.1 42 (by decide)).2.1 ?_
        refine ea_if_eq (pc := 151) (tgt := 203) dX1_comes_151 rfl (fun c28 => ?_) (fun c28 => ?_)
        · have E := (if_pos c28).symm.trans E
          refine ea_iinc (pc := 203) (v := 1) (lv' := [(0, vR (some (b0 + 42))), (2, vI x2), (4, vI x4), (5, vI x5), (6, vI x6), (7, vI x7), (8, vI (x8 + (1 : Int32)))]) dX1_comes_203 6 rfl rfl (Nat.le_of_ble_eq_true rfl) [1, 2, 3, 4, 5, 6, 0] rfl ?_
          refine ea_goto (pc := 206) (tgt := 95) dX1_comes_206 rfl ?_
          exact ((ih 95 0 0 (x2 : Int32) 0 (x4 : Int32) (x5 : Int32) (x6 : Int32) (x7 : Int32) ((x8 + (1 : Int32)) : Int32) h _ _ E hs).2.2.1 rfl)
        · have E := (if_neg c28).symm.trans E
          refine ea_aload_n (pc := 154) dX1_comes_154 rfl 0 rfl ?_
          refine ea_getR (pc := 155) dX1_comes_155 ec_1 (k := 5) (Nat.le_of_ble_eq_true rfl) rfl (Or.inl ew_369) (hs.1 42 (by decide)).1 (hs.1 42 (by decide)).2.1 (hs.2 42 5 rfl) ?_
          refine ea_iload (pc := 158) dX1_comes_158 6 rfl ?_
          obtain ⟨z18, E⟩ := gd_some E
          refine ea_zald (pc := 160) dX1_comes_160 (hs.1 47 (by decide)).1 (hs.1 47 (by decide)).2.1 (ea_vpl (hs.1 47 (by decide)).2.2 z18) ?_
          refine ea_if_ne (pc := 161) (tgt := 186) dX1_comes_161 rfl (fun c27 => ?_) (fun c27 => ?_)
          · have E := (if_neg c27).symm.trans E
            exact (ea_fewer [0, 1, 2, 3, 4, 5, 6] rfl ((ih 186 0 0 (x2 : Int32) 0 (x4 : Int32) (x5 : Int32) (x6 : Int32) (x7 : Int32) (x8 : Int32) h _ _ E hs).2.2.2.2 rfl))
          · have E := (if_pos c27).symm.trans E
            refine ea_aload_n (pc := 164) dX1_comes_164 rfl 0 rfl ?_
            refine ea_getR (pc := 165) dX1_comes_165 ec_1 (k := 4) (Nat.le_of_ble_eq_true rfl) rfl (Or.inl ew_367) (hs.1 42 (by decide)).1 (hs.1 42 (by decide)).2.1 (hs.2 42 4 rfl) ?_
            refine ea_iload (pc := 168) dX1_comes_168 6 rfl ?_
            refine ea_dup2 (pc := 170) dX1_comes_170 rfl rfl ?_
            obtain ⟨z19, E⟩ := gd_some E
            refine ea_iald (pc := 171) dX1_comes_171 (hs.1 46 (by decide)).1 (hs.1 46 (by decide)).2.1 (ea_vpl (hs.1 46 (by decide)).2.2 z19) ?_
            refine ea_iconst (pc := 172) dX1_comes_172 (v := 1) rfl ?_
            refine ea_iadd (pc := 173) dX1_comes_173 ?_
            obtain ⟨z20, E⟩ := gd_some E
            refine ea_iast (pc := 174) dX1_comes_174 (hs.1 46 (by decide)).1 (hs.1 46 (by decide)).2.1 (ea_vpl (hs.1 46 (by decide)).2.2 z20) ?_
            have hs21 : ShC b0 (ea_wi h (b0 + 46) (Int32.toNatClampNeg x8) ((ea_i h (b0 + 46) (Int32.toNatClampNeg x8)) + (1 : Int32))) := ShC_wi hs
            obtain ⟨H22, eH22, E⟩ := let_some E
            refine ea_nm eH22 ?_
            have hsH22 : ShC b0 H22 := by rw [eH22]; exact hs21
            refine ea_aload_n (pc := 175) dX1_comes_175 rfl 0 rfl ?_
            refine ea_getR (pc := 176) dX1_comes_176 ec_1 (k := 6) (Nat.le_of_ble_eq_true rfl) rfl (Or.inl ew_371) (hsH22.1 42 (by decide)).1 (hsH22.1 42 (by decide)).2.1 (hsH22.2 42 6 rfl) ?_
            refine ea_iload (pc := 179) dX1_comes_179 3 rfl ?_
            refine ea_dup2 (pc := 181) dX1_comes_181 rfl rfl ?_
            obtain ⟨z23, E⟩ := gd_some E
            refine ea_iald (pc := 182) dX1_comes_182 (hsH22.1 48 (by decide)).1 (hsH22.1 48 (by decide)).2.1 (ea_vpl (hsH22.1 48 (by decide)).2.2 z23) ?_
            refine ea_iconst (pc := 183) dX1_comes_183 (v := 1) rfl ?_
            refine ea_iadd (pc := 184) dX1_comes_184 ?_
            obtain ⟨z24, E⟩ := gd_some E
            refine ea_iast (pc := 185) dX1_comes_185 (hsH22.1 48 (by decide)).1 (hsH22.1 48 (by decide)).2.1 (ea_vpl (hsH22.1 48 (by decide)).2.2 z24) ?_
            have hs25 : ShC b0 (ea_wi H22 (b0 + 48) (Int32.toNatClampNeg x5) ((ea_i H22 (b0 + 48) (Int32.toNatClampNeg x5)) + (1 : Int32))) := ShC_wi hsH22
            obtain ⟨H26, eH26, E⟩ := let_some E
            refine ea_nm eH26 ?_
            have hsH26 : ShC b0 H26 := by rw [eH26]; exact hs25
            exact (ea_fewer [0, 1, 2, 3, 4, 5, 6] rfl ((ih 186 0 0 (x2 : Int32) 0 (x4 : Int32) (x5 : Int32) (x6 : Int32) (x7 : Int32) (x8 : Int32) H26 _ _ E hsH26).2.2.2.2 rfl))
    intro el
    subst el
    have E := (if_neg (by decide)).symm.trans E
    have E := (if_neg (by decide)).symm.trans E
    have E := (if_neg (by decide)).symm.trans E
    have E := (if_neg (by decide)).symm.trans E
    have E := (if_pos rfl).symm.trans E
    refine ea_aload_n (pc := 186) dX1_comes_186 rfl 0 rfl ?_
    refine ea_iload (pc := 187) dX1_comes_187 6 rfl ?_
    refine ea_iload_n (pc := 189) dX1_comes_189 rfl 1 rfl ?_
    refine ea_aload_n (pc := 190) dX1_comes_190 rfl 0 rfl ?_
    refine ea_iload (pc := 191) dX1_comes_191 6 rfl ?_
    refine ea_iload (pc := 193) dX1_comes_193 5 rfl ?_
    obtain ⟨z30, E⟩ := gd_some E
    refine ea_callV (pc := 195) (d' := d - 1) (As := [vI x8, vI x7]) (st := [vI x2, vI x8, vR (some (b0 + 42))]) dX1_comes_195 kX1_stateIn (sX1_stateIn_at42 (d := d - 1) (by omega) hs z30) (by omega) rfl (Nat.le_of_ble_eq_true rfl) ew_716 ew_718 ew_15 (ci := 1) rfl (by decide) (hs.1 42 (by decide)).1 (hs.1 42 (by decide)).2.1 ?_
    refine ea_iload (pc := 198) dX1_comes_198 5 rfl ?_
    obtain ⟨z31, E⟩ := gd_some E
    refine ea_callV (pc := 200) (d' := d - 1) (As := [vI x8, vI x2, vI (vX1_stateIn_at42 b0 (x8 : Int32) (x7 : Int32) h), vI x7]) (st := []) dX1_comes_200 kX1_move (sX1_move_at42 (d := d - 1) (by omega) hs z31) (by omega) rfl (Nat.le_of_ble_eq_true rfl) ew_645 ew_646 ew_647 (ci := 1) rfl (by decide) (hs.1 42 (by decide)).1 (hs.1 42 (by decide)).2.1 ?_
    have hs32 : ShC b0 (wX1_move_at42 b0 (x8 : Int32) (x2 : Int32) ((vX1_stateIn_at42 b0 (x8 : Int32) (x7 : Int32) h) : Int32) (x7 : Int32) h) := shX1_move_at42 hs
    obtain ⟨H33, eH33, E⟩ := let_some E
    refine ea_nm eH33 ?_
    have hsH33 : ShC b0 H33 := by rw [eH33]; exact hs32
    refine ea_iinc (pc := 203) (v := 1) (lv' := [(0, vR (some (b0 + 42))), (2, vI x2), (4, vI x4), (5, vI x5), (6, vI x6), (7, vI x7), (8, vI (x8 + (1 : Int32)))]) dX1_comes_203 6 rfl rfl (Nat.le_of_ble_eq_true rfl) [1, 2, 3, 4, 5, 6, 0] rfl ?_
    refine ea_goto (pc := 206) (tgt := 95) dX1_comes_206 rfl ?_
    exact ((ih 95 0 0 (x2 : Int32) 0 (x4 : Int32) (x5 : Int32) (x6 : Int32) (x7 : Int32) ((x8 + (1 : Int32)) : Int32) H33 _ _ E hsH33).2.2.1 rfl)
noncomputable def qX1_comes_at42 (b0 : Nat) (x1 : Int32) (x2 : Int32) (h : ea_H) : Option (Unit × ea_H) := gX1_comes_at42 b0 1000000000 0 0 x1 x2 0 0 0 0 0 0 h
def okX1_comes_at42 (b0 : Nat) (x1 : Int32) (x2 : Int32) (h : ea_H) : Prop := ∃ x, qX1_comes_at42 b0 x1 x2 h = some x
noncomputable def wX1_comes_at42 (b0 : Nat) (x1 : Int32) (x2 : Int32) (h : ea_H) : ea_H := ((qX1_comes_at42 b0 x1 x2 h).getD ((), h)).2
theorem sX1_comes_at42 {d : Nat} {b0 : Nat} {x1 : Int32} {x2 : Int32} {h : ea_H} (hd : 5 ≤ d) (hs : ShC b0 h) (K : okX1_comes_at42 b0 x1 x2 h) : ea_Met mX1_comes d [vR (some (b0 + 42)), vI x1, vI x2] h none (wX1_comes_at42 b0 x1 x2 h) := by
  obtain ⟨⟨x, y⟩, K⟩ := K
  unfold wX1_comes_at42
  rw [K]
  unfold qX1_comes_at42 at K
  exact ea_enter rfl (Nat.le_of_ble_eq_true rfl) ((tX1_comes_at42 hd 1000000000 0 0 x1 x2 0 0 0 0 0 0 h x y K hs).1 rfl)
theorem zX1_comes_at42 {b0 : Nat} : ∀ (f lbl : Nat) (sx0 : Int32) (x1 : Int32) (x2 : Int32) (x3 : Int32) (x4 : Int32) (x5 : Int32) (x6 : Int32) (x7 : Int32) (x8 : Int32) (h : ea_H) (r : Unit) (h' : ea_H), gX1_comes_at42 b0 f lbl sx0 x1 x2 x3 x4 x5 x6 x7 x8 h = some (r, h') → ShC b0 h → ShC b0 h' := by
  intro f
  induction f with
  | zero => intro lbl sx0 x1 x2 x3 x4 x5 x6 x7 x8 h r h' E; cases E
  | succ f ih =>
    intro lbl sx0 x1 x2 x3 x4 x5 x6 x7 x8 h r h' E hs
    unfold gX1_comes_at42 at E
    by_cases el0 : lbl = 0
    · have E := (if_pos el0).symm.trans E
      obtain ⟨z4, E⟩ := gd_some E
      by_cases c9 : (ea_i h (b0 + 51) (Int32.toNatClampNeg (((10 : Int32) * (vX10_dayIn (x1 : Int32) h)) + (vX10_trainIn (x1 : Int32) h)))) = (0 : Int32)
      · have E := (if_pos c9).symm.trans E
        exact ea_shO E hs
      have E := (if_neg c9).symm.trans E
      obtain ⟨z5, E⟩ := gd_some E
      by_cases c8 : (ea_i h (b0 + 12) (Int32.toNatClampNeg (((8 : Int32) * (((10 : Int32) * (vX10_dayIn (x1 : Int32) h)) + (vX10_trainIn (x1 : Int32) h))) + (vX10_stopIn (x1 : Int32) h)))) = (0 : Int32)
      · have E := (if_pos c8).symm.trans E
        obtain ⟨z6, E⟩ := gd_some E
        by_cases c7 : (vX10_stopIn (x1 : Int32) h) = ((ea_i h (b0 + 6) (Int32.toNatClampNeg (vX10_trainIn (x1 : Int32) h))) - (1 : Int32))
        · have E := (if_pos c7).symm.trans E
          exact ih 73 (1 : Int32) 0 (x2 : Int32) ((vX10_trainIn (x1 : Int32) h) : Int32) ((vX10_stopIn (x1 : Int32) h) : Int32) ((((10 : Int32) * (vX10_dayIn (x1 : Int32) h)) + (vX10_trainIn (x1 : Int32) h)) : Int32) 0 0 0 h _ _ E hs
        have E := (if_neg c7).symm.trans E
        exact ih 73 (0 : Int32) 0 (x2 : Int32) ((vX10_trainIn (x1 : Int32) h) : Int32) ((vX10_stopIn (x1 : Int32) h) : Int32) ((((10 : Int32) * (vX10_dayIn (x1 : Int32) h)) + (vX10_trainIn (x1 : Int32) h)) : Int32) 0 0 0 h _ _ E hs
      have E := (if_neg c8).symm.trans E
      exact ea_shO E hs
    have E := (if_neg el0).symm.trans E
    by_cases el1 : lbl = 73
    · have E := (if_pos el1).symm.trans E
      obtain ⟨z10, E⟩ := gd_some E
      exact ih 95 0 0 (x2 : Int32) 0 (x4 : Int32) (x5 : Int32) (sx0 : Int32) ((ea_i h (b0 + 7) (Int32.toNatClampNeg (((8 : Int32) * x3) + x4))) : Int32) (0 : Int32) h _ _ E hs
    have E := (if_neg el1).symm.trans E
    by_cases el2 : lbl = 95
    · have E := (if_pos el2).symm.trans E
      by_cases c16 : (ea_i h (b0 + 42) 0) ≤ x8
      · have E := (if_pos c16).symm.trans E
        exact ea_shO E hs
      have E := (if_neg c16).symm.trans E
      by_cases c15 : x6 = (0 : Int32)
      · have E := (if_pos c15).symm.trans E
        obtain ⟨z11, E⟩ := gd_some E
        by_cases c14 : (ea_i h (b0 + 47) (Int32.toNatClampNeg x8)) = (0 : Int32)
        · have E := (if_pos c14).symm.trans E
          exact ih 136 (0 : Int32) 0 (x2 : Int32) 0 (x4 : Int32) (x5 : Int32) (x6 : Int32) (x7 : Int32) (x8 : Int32) h _ _ E hs
        have E := (if_neg c14).symm.trans E
        obtain ⟨z12, E⟩ := gd_some E
        by_cases c13 : x4 < (ea_i h (b0 + 45) (Int32.toNatClampNeg x8))
        · have E := (if_pos c13).symm.trans E
          exact ih 136 (0 : Int32) 0 (x2 : Int32) 0 (x4 : Int32) (x5 : Int32) (x6 : Int32) (x7 : Int32) (x8 : Int32) h _ _ E hs
        have E := (if_neg c13).symm.trans E
        exact ih 136 (1 : Int32) 0 (x2 : Int32) 0 (x4 : Int32) (x5 : Int32) (x6 : Int32) (x7 : Int32) (x8 : Int32) h _ _ E hs
      have E := (if_neg c15).symm.trans E
      exact ih 136 (1 : Int32) 0 (x2 : Int32) 0 (x4 : Int32) (x5 : Int32) (x6 : Int32) (x7 : Int32) (x8 : Int32) h _ _ E hs
    have E := (if_neg el2).symm.trans E
    by_cases el3 : lbl = 136
    · have E := (if_pos el3).symm.trans E
      by_cases c29 : sx0 = (0 : Int32)
      · have E := (if_pos c29).symm.trans E
        exact ih 95 0 0 (x2 : Int32) 0 (x4 : Int32) (x5 : Int32) (x6 : Int32) (x7 : Int32) ((x8 + (1 : Int32)) : Int32) h _ _ E hs
      have E := (if_neg c29).symm.trans E
      obtain ⟨z17, E⟩ := gd_some E
      by_cases c28 : (vX1_isAboard_at42 b0 (x8 : Int32) (x5 : Int32) h) = (0 : Int32)
      · have E := (if_pos c28).symm.trans E
        exact ih 95 0 0 (x2 : Int32) 0 (x4 : Int32) (x5 : Int32) (x6 : Int32) (x7 : Int32) ((x8 + (1 : Int32)) : Int32) h _ _ E hs
      have E := (if_neg c28).symm.trans E
      obtain ⟨z18, E⟩ := gd_some E
      by_cases c27 : (ea_i h (b0 + 47) (Int32.toNatClampNeg x8)) = (0 : Int32)
      · have E := (if_pos c27).symm.trans E
        obtain ⟨z19, E⟩ := gd_some E
        obtain ⟨z20, E⟩ := gd_some E
        obtain ⟨H22, eH22, E⟩ := let_some E
        have hsH22 : ShC b0 H22 := by rw [eH22]; exact (ShC_wi hs)
        obtain ⟨z23, E⟩ := gd_some E
        obtain ⟨z24, E⟩ := gd_some E
        obtain ⟨H26, eH26, E⟩ := let_some E
        have hsH26 : ShC b0 H26 := by rw [eH26]; exact (ShC_wi hsH22)
        exact ih 186 0 0 (x2 : Int32) 0 (x4 : Int32) (x5 : Int32) (x6 : Int32) (x7 : Int32) (x8 : Int32) H26 _ _ E hsH26
      have E := (if_neg c27).symm.trans E
      exact ih 186 0 0 (x2 : Int32) 0 (x4 : Int32) (x5 : Int32) (x6 : Int32) (x7 : Int32) (x8 : Int32) h _ _ E hs
    have E := (if_neg el3).symm.trans E
    by_cases el4 : lbl = 186
    · have E := (if_pos el4).symm.trans E
      obtain ⟨z30, E⟩ := gd_some E
      obtain ⟨z31, E⟩ := gd_some E
      obtain ⟨H33, eH33, E⟩ := let_some E
      have hsH33 : ShC b0 H33 := by rw [eH33]; exact (shX1_move_at42 hs)
      exact ih 95 0 0 (x2 : Int32) 0 (x4 : Int32) (x5 : Int32) (x6 : Int32) (x7 : Int32) ((x8 + (1 : Int32)) : Int32) H33 _ _ E hsH33
    have E := (if_neg el4).symm.trans E
    cases E
theorem shX1_comes_at42 {b0 : Nat} {x1 : Int32} {x2 : Int32} {h : ea_H} (hs : ShC b0 h) : ShC b0 (wX1_comes_at42 b0 x1 x2 h) := by
  unfold wX1_comes_at42
  cases K : qX1_comes_at42 b0 x1 x2 h with
  | none => exact hs
  | some x => obtain ⟨x, y⟩ := x; unfold qX1_comes_at42 at K; exact zX1_comes_at42 _ _ _ _ _ _ _ _ _ _ _ _ _ _ K hs
noncomputable def gX1_goes_at32 (b0 : Nat) : Nat → Nat → Int32 → Int32 → Int32 → Int32 → Int32 → Int32 → Int32 → ea_H → Option (Unit × ea_H)
  | 0, _, _, _, _, _, _, _, _, _ => none
  | f + 1, lbl, x1, x2, x3, x4, x5, x6, x7, h =>
    if lbl = 0 then (gd (vp_in (((8 : Int32) * (vX10_trainIn (x1 : Int32) h)) + (vX10_stopIn (x1 : Int32) h)) 80) (gd (vp_in (ea_i h (b0 + 7) (Int32.toNatClampNeg (((8 : Int32) * (vX10_trainIn (x1 : Int32) h)) + (vX10_stopIn (x1 : Int32) h)))) 12) (if (ea_i h (b0 + 40) (Int32.toNatClampNeg (ea_i h (b0 + 7) (Int32.toNatClampNeg (((8 : Int32) * (vX10_trainIn (x1 : Int32) h)) + (vX10_stopIn (x1 : Int32) h)))))) ≤ (0 : Int32) then (gX1_goes_at32 b0 f 162 0 0 ((vX10_trainIn (x1 : Int32) h) : Int32) ((vX10_stopIn (x1 : Int32) h) : Int32) ((((10 : Int32) * (vX10_dayIn (x1 : Int32) h)) + (vX10_trainIn (x1 : Int32) h)) : Int32) 0 0 h) else (gd (vp_in (((8 : Int32) * (((10 : Int32) * (vX10_dayIn (x1 : Int32) h)) + (vX10_trainIn (x1 : Int32) h))) + (vX10_stopIn (x1 : Int32) h)) 560) (if (ea_i h (b0 + 12) (Int32.toNatClampNeg (((8 : Int32) * (((10 : Int32) * (vX10_dayIn (x1 : Int32) h)) + (vX10_trainIn (x1 : Int32) h))) + (vX10_stopIn (x1 : Int32) h)))) = (0 : Int32) then (gX1_goes_at32 b0 f 71 (x1 : Int32) (x2 : Int32) ((vX10_trainIn (x1 : Int32) h) : Int32) ((vX10_stopIn (x1 : Int32) h) : Int32) ((((10 : Int32) * (vX10_dayIn (x1 : Int32) h)) + (vX10_trainIn (x1 : Int32) h)) : Int32) ((ea_i h (b0 + 7) (Int32.toNatClampNeg (((8 : Int32) * (vX10_trainIn (x1 : Int32) h)) + (vX10_stopIn (x1 : Int32) h)))) : Int32) (0 : Int32) h) else (gX1_goes_at32 b0 f 162 0 0 ((vX10_trainIn (x1 : Int32) h) : Int32) ((vX10_stopIn (x1 : Int32) h) : Int32) ((((10 : Int32) * (vX10_dayIn (x1 : Int32) h)) + (vX10_trainIn (x1 : Int32) h)) : Int32) 0 0 h)))))) else
    if lbl = 71 then (if (ea_i h (b0 + 32) 0) ≤ x7 then (gX1_goes_at32 b0 f 162 0 0 (x3 : Int32) (x4 : Int32) (x5 : Int32) 0 0 h) else (gd (vp_in x7 120) (if (ea_i h (b0 + 33) (Int32.toNatClampNeg x7)) = (0 : Int32) then (gd (vp_in x7 120) (if (ea_i h (b0 + 34) (Int32.toNatClampNeg x7)) = x6 then (gd (vp_in x7 120) (gd ((ea_r h (b0 + 31) (Int32.toNatClampNeg x7)) = some (Option.getD (ea_r h (b0 + 31) (Int32.toNatClampNeg x7)) 0)) (gd (((Option.getD (ea_r h (b0 + 31) (Int32.toNatClampNeg x7)) 0) < ea_n h ∧ ea_c h (Option.getD (ea_r h (b0 + 31) (Int32.toNatClampNeg x7)) 0) = 4)) (gd ((okX10_bestAtGoing b0 (x5 : Int32) (x4 : Int32) ((ea_i h (Option.getD (ea_r h (b0 + 31) (Int32.toNatClampNeg x7)) 0) 2) : Int32) h)) (if (vX10_begins ((vX10_bestAtGoing b0 (x5 : Int32) (x4 : Int32) ((ea_i h (Option.getD (ea_r h (b0 + 31) (Int32.toNatClampNeg x7)) 0) 2) : Int32) h) : Int64) (x1 : Int32) h) = (0 : Int32) then (gX1_goes_at32 b0 f 71 (x1 : Int32) (x2 : Int32) (x3 : Int32) (x4 : Int32) (x5 : Int32) (x6 : Int32) ((x7 + (1 : Int32)) : Int32) h) else (gd ((okX1_move_at32 b0 (x7 : Int32) (x2 : Int32) (1 : Int32) (x5 : Int32) h)) (ea_let (wX1_move_at32 b0 (x7 : Int32) (x2 : Int32) (1 : Int32) (x5 : Int32) h) fun H18 => (gd (vp_in x7 120) (ea_let (ea_wi H18 (b0 + 35) (Int32.toNatClampNeg x7) (vX10_leftOf ((vX10_bestAtGoing b0 (x5 : Int32) (x4 : Int32) ((ea_i h (Option.getD (ea_r h (b0 + 31) (Int32.toNatClampNeg x7)) 0) 2) : Int32) h) : Int64) H18)) fun H22 => (gX1_goes_at32 b0 f 71 (x1 : Int32) (x2 : Int32) (x3 : Int32) (x4 : Int32) (x5 : Int32) (x6 : Int32) ((x7 + (1 : Int32)) : Int32) H22)))))))))) else (gX1_goes_at32 b0 f 71 (x1 : Int32) (x2 : Int32) (x3 : Int32) (x4 : Int32) (x5 : Int32) (x6 : Int32) ((x7 + (1 : Int32)) : Int32) h))) else (gX1_goes_at32 b0 f 71 (x1 : Int32) (x2 : Int32) (x3 : Int32) (x4 : Int32) (x5 : Int32) (x6 : Int32) ((x7 + (1 : Int32)) : Int32) h)))) else
    if lbl = 162 then (gd (vp_in x5 70) (if (ea_i h (b0 + 41) (Int32.toNatClampNeg x5)) ≤ (0 : Int32) then (some ((), h)) else (gd ((okX3_sitsIn b0 (x3 : Int32) h)) (ea_let (wX3_sitsIn b0 (x3 : Int32) h) fun H30 => (if (vX3_sitsIn b0 (x3 : Int32) h) = (0 : Int32) then (some ((), H30)) else (gd ((okX1_sort_at32 b0 (x5 : Int32) (x3 : Int32) (x4 : Int32) H30)) (ea_let (wX1_sort_at32 b0 (x5 : Int32) (x3 : Int32) (x4 : Int32) H30) fun H33 => (some ((), H33))))))))) else none
theorem tX1_goes_at32 {d : Nat} {b0 : Nat} {h0 : ea_H} (hd : 5 ≤ d) : ∀ (f lbl : Nat) (x1 : Int32) (x2 : Int32) (x3 : Int32) (x4 : Int32) (x5 : Int32) (x6 : Int32) (x7 : Int32) (h : ea_H) (r : Unit) (h' : ea_H), gX1_goes_at32 b0 f lbl x1 x2 x3 x4 x5 x6 x7 h = some (r, h') → ShC b0 h → (lbl = 0 → ea_W mX1_goes d h0 none h' 0 [(0, vR (some (b0 + 32))), (1, vI x1), (2, vI x2)] [] h) ∧ (lbl = 71 → ea_W mX1_goes d h0 none h' 71 [(0, vR (some (b0 + 32))), (1, vI x1), (2, vI x2), (3, vI x3), (4, vI x4), (5, vI x5), (6, vI x6), (7, vI x7)] [] h) ∧ (lbl = 162 → ea_W mX1_goes d h0 none h' 162 [(0, vR (some (b0 + 32))), (3, vI x3), (4, vI x4), (5, vI x5)] [] h) := by
  intro f
  induction f with
  | zero => intro lbl x1 x2 x3 x4 x5 x6 x7 h r h' E; cases E
  | succ f ih =>
    intro lbl x1 x2 x3 x4 x5 x6 x7 h r h' E hs
    unfold gX1_goes_at32 at E
    refine ⟨?_, ?_⟩
    · intro el
      subst el
      have E := (if_pos rfl).symm.trans E
      refine ea_iload_n (pc := 0) dX1_goes_0 rfl 1 rfl ?_
      refine ea_callS (pc := 1) (d' := d - 1) (As := [vI x1]) (st := []) dX1_goes_1 kX10_trainIn (sX10_trainIn (d := d - 1) (by omega)) (by omega) rfl (Nat.le_of_ble_eq_true rfl) ew_670 ew_597 ?_
      refine ea_istore_n (pc := 4) (lv' := [(0, vR (some (b0 + 32))), (1, vI x1), (2, vI x2), (3, vI (vX10_trainIn (x1 : Int32) h))]) dX1_goes_4 rfl (Nat.le_of_ble_eq_true rfl) [1, 2, 3, 0] rfl ?_
      refine ea_iload_n (pc := 5) dX1_goes_5 rfl 1 rfl ?_
      refine ea_callS (pc := 6) (d' := d - 1) (As := [vI x1]) (st := []) dX1_goes_6 kX10_stopIn (sX10_stopIn (d := d - 1) (by omega)) (by omega) rfl (Nat.le_of_ble_eq_true rfl) ew_671 ew_600 ?_
      refine ea_istore (pc := 9) (lv' := [(0, vR (some (b0 + 32))), (1, vI x1), (2, vI x2), (3, vI (vX10_trainIn (x1 : Int32) h)), (4, vI (vX10_stopIn (x1 : Int32) h))]) dX1_goes_9 (Nat.le_of_ble_eq_true rfl) [1, 2, 3, 4, 0] rfl ?_
      refine ea_bipush (pc := 11) dX1_goes_11 (v := 10) rfl ?_
      refine ea_iload_n (pc := 13) dX1_goes_13 rfl 1 rfl ?_
      refine ea_callS (pc := 14) (d' := d - 1) (As := [vI x1]) (st := [vI 10]) dX1_goes_14 kX10_dayIn (sX10_dayIn (d := d - 1) (by omega)) (by omega) rfl (Nat.le_of_ble_eq_true rfl) ew_672 ew_609 ?_
      refine ea_imul (pc := 17) dX1_goes_17 ?_
      refine ea_iload_n (pc := 18) dX1_goes_18 rfl 3 rfl ?_
      refine ea_iadd (pc := 19) dX1_goes_19 ?_
      refine ea_istore (pc := 20) (lv' := [(0, vR (some (b0 + 32))), (1, vI x1), (2, vI x2), (3, vI (vX10_trainIn (x1 : Int32) h)), (4, vI (vX10_stopIn (x1 : Int32) h)), (5, vI (((10 : Int32) * (vX10_dayIn (x1 : Int32) h)) + (vX10_trainIn (x1 : Int32) h)))]) dX1_goes_20 (Nat.le_of_ble_eq_true rfl) [1, 2, 3, 4, 5, 0] rfl ?_
      refine ea_aload_n (pc := 22) dX1_goes_22 rfl 0 rfl ?_
      refine ea_getR (pc := 23) dX1_goes_23 ec_1 (k := 11) (Nat.le_of_ble_eq_true rfl) rfl (Or.inl ew_377) (hs.1 32 (by decide)).1 (hs.1 32 (by decide)).2.1 (hs.2 32 11 rfl) ?_
      refine ea_getR (pc := 26) dX1_goes_26 ec_9 (k := 2) (Nat.le_of_ble_eq_true rfl) rfl (Or.inl ew_186) (hs.1 5 (by decide)).1 (hs.1 5 (by decide)).2.1 (hs.2 5 2 rfl) ?_
      refine ea_bipush (pc := 29) dX1_goes_29 (v := 8) rfl ?_
      refine ea_iload_n (pc := 31) dX1_goes_31 rfl 3 rfl ?_
      refine ea_imul (pc := 32) dX1_goes_32 ?_
      refine ea_iload (pc := 33) dX1_goes_33 4 rfl ?_
      refine ea_iadd (pc := 35) dX1_goes_35 ?_
      obtain ⟨z4, E⟩ := gd_some E
      refine ea_iald (pc := 36) dX1_goes_36 (hs.1 7 (by decide)).1 (hs.1 7 (by decide)).2.1 (ea_vpl (hs.1 7 (by decide)).2.2 z4) ?_
      refine ea_istore (pc := 37) (lv' := [(0, vR (some (b0 + 32))), (1, vI x1), (2, vI x2), (3, vI (vX10_trainIn (x1 : Int32) h)), (4, vI (vX10_stopIn (x1 : Int32) h)), (5, vI (((10 : Int32) * (vX10_dayIn (x1 : Int32) h)) + (vX10_trainIn (x1 : Int32) h))), (6, vI (ea_i h (b0 + 7) (Int32.toNatClampNeg (((8 : Int32) * (vX10_trainIn (x1 : Int32) h)) + (vX10_stopIn (x1 : Int32) h)))))]) dX1_goes_37 (Nat.le_of_ble_eq_true rfl) [1, 2, 3, 4, 5, 6, 0] rfl ?_
      refine ea_aload_n (pc := 39) dX1_goes_39 rfl 0 rfl ?_
      refine ea_getR (pc := 40) dX1_goes_40 ec_1 (k := 8) (Nat.le_of_ble_eq_true rfl) rfl (Or.inl ew_374) (hs.1 32 (by decide)).1 (hs.1 32 (by decide)).2.1 (hs.2 32 8 rfl) ?_
      refine ea_iload (pc := 43) dX1_goes_43 6 rfl ?_
      obtain ⟨z5, E⟩ := gd_some E
      refine ea_iald (pc := 45) dX1_goes_45 (hs.1 40 (by decide)).1 (hs.1 40 (by decide)).2.1 (ea_vpl (hs.1 40 (by decide)).2.2 z5) ?_
      refine ea_if_le (pc := 46) (tgt := 162) dX1_goes_46 rfl (fun c8 => ?_) (fun c8 => ?_)
      · have E := (if_pos c8).symm.trans E
        exact (ea_fewer [0, 3, 4, 5] rfl ((ih 162 0 0 ((vX10_trainIn (x1 : Int32) h) : Int32) ((vX10_stopIn (x1 : Int32) h) : Int32) ((((10 : Int32) * (vX10_dayIn (x1 : Int32) h)) + (vX10_trainIn (x1 : Int32) h)) : Int32) 0 0 h _ _ E hs).2.2 rfl))
      · have E := (if_neg c8).symm.trans E
        refine ea_aload_n (pc := 49) dX1_goes_49 rfl 0 rfl ?_
        refine ea_getR (pc := 50) dX1_goes_50 ec_1 (k := 11) (Nat.le_of_ble_eq_true rfl) rfl (Or.inl ew_377) (hs.1 32 (by decide)).1 (hs.1 32 (by decide)).2.1 (hs.2 32 11 rfl) ?_
        refine ea_getR (pc := 53) dX1_goes_53 ec_9 (k := 7) (Nat.le_of_ble_eq_true rfl) rfl (Or.inl ew_200) (hs.1 5 (by decide)).1 (hs.1 5 (by decide)).2.1 (hs.2 5 7 rfl) ?_
        refine ea_bipush (pc := 56) dX1_goes_56 (v := 8) rfl ?_
        refine ea_iload (pc := 58) dX1_goes_58 5 rfl ?_
        refine ea_imul (pc := 60) dX1_goes_60 ?_
        refine ea_iload (pc := 61) dX1_goes_61 4 rfl ?_
        refine ea_iadd (pc := 63) dX1_goes_63 ?_
        obtain ⟨z6, E⟩ := gd_some E
        refine ea_zald (pc := 64) dX1_goes_64 (hs.1 12 (by decide)).1 (hs.1 12 (by decide)).2.1 (ea_vpl (hs.1 12 (by decide)).2.2 z6) ?_
        refine ea_if_ne (pc := 65) (tgt := 162) dX1_goes_65 rfl (fun c7 => ?_) (fun c7 => ?_)
        · have E := (if_neg c7).symm.trans E
          exact (ea_fewer [0, 3, 4, 5] rfl ((ih 162 0 0 ((vX10_trainIn (x1 : Int32) h) : Int32) ((vX10_stopIn (x1 : Int32) h) : Int32) ((((10 : Int32) * (vX10_dayIn (x1 : Int32) h)) + (vX10_trainIn (x1 : Int32) h)) : Int32) 0 0 h _ _ E hs).2.2 rfl))
        · have E := (if_pos c7).symm.trans E
          refine ea_iconst (pc := 68) dX1_goes_68 (v := 0) rfl ?_
          refine ea_istore (pc := 69) (lv' := [(0, vR (some (b0 + 32))), (1, vI x1), (2, vI x2), (3, vI (vX10_trainIn (x1 : Int32) h)), (4, vI (vX10_stopIn (x1 : Int32) h)), (5, vI (((10 : Int32) * (vX10_dayIn (x1 : Int32) h)) + (vX10_trainIn (x1 : Int32) h))), (6, vI (ea_i h (b0 + 7) (Int32.toNatClampNeg (((8 : Int32) * (vX10_trainIn (x1 : Int32) h)) + (vX10_stopIn (x1 : Int32) h))))), (7, vI 0)]) dX1_goes_69 (Nat.le_of_ble_eq_true rfl) [1, 2, 3, 4, 5, 6, 7, 0] rfl ?_
          exact ((ih 71 (x1 : Int32) (x2 : Int32) ((vX10_trainIn (x1 : Int32) h) : Int32) ((vX10_stopIn (x1 : Int32) h) : Int32) ((((10 : Int32) * (vX10_dayIn (x1 : Int32) h)) + (vX10_trainIn (x1 : Int32) h)) : Int32) ((ea_i h (b0 + 7) (Int32.toNatClampNeg (((8 : Int32) * (vX10_trainIn (x1 : Int32) h)) + (vX10_stopIn (x1 : Int32) h)))) : Int32) (0 : Int32) h _ _ E hs).2.1 rfl)
    refine ⟨?_, ?_⟩
    · intro el
      subst el
      have E := (if_neg (by decide)).symm.trans E
      have E := (if_pos rfl).symm.trans E
      refine ea_iload (pc := 71) dX1_goes_71 7 rfl ?_
      refine ea_aload_n (pc := 73) dX1_goes_73 rfl 0 rfl ?_
      refine ea_getI (pc := 74) dX1_goes_74 ec_1 (k := 0) (Nat.le_of_ble_eq_true rfl) rfl (Or.inl ew_359) (hs.1 32 (by decide)).1 (hs.1 32 (by decide)).2.1 ?_
      refine ea_icmp_ge (pc := 77) (tgt := 162) dX1_goes_77 rfl (fun c26 => ?_) (fun c26 => ?_)
      · have E := (if_pos c26).symm.trans E
        exact (ea_fewer [0, 3, 4, 5] rfl ((ih 162 0 0 (x3 : Int32) (x4 : Int32) (x5 : Int32) 0 0 h _ _ E hs).2.2 rfl))
      · have E := (if_neg c26).symm.trans E
        refine ea_aload_n (pc := 80) dX1_goes_80 rfl 0 rfl ?_
        refine ea_getR (pc := 81) dX1_goes_81 ec_1 (k := 1) (Nat.le_of_ble_eq_true rfl) rfl (Or.inl ew_361) (hs.1 32 (by decide)).1 (hs.1 32 (by decide)).2.1 (hs.2 32 1 rfl) ?_
        refine ea_iload (pc := 84) dX1_goes_84 7 rfl ?_
        obtain ⟨z9, E⟩ := gd_some E
        refine ea_iald (pc := 86) dX1_goes_86 (hs.1 33 (by decide)).1 (hs.1 33 (by decide)).2.1 (ea_vpl (hs.1 33 (by decide)).2.2 z9) ?_
        refine ea_if_ne (pc := 87) (tgt := 156) dX1_goes_87 rfl (fun c25 => ?_) (fun c25 => ?_)
        · have E := (if_neg c25).symm.trans E
          refine ea_iinc (pc := 156) (v := 1) (lv' := [(0, vR (some (b0 + 32))), (1, vI x1), (2, vI x2), (3, vI x3), (4, vI x4), (5, vI x5), (6, vI x6), (7, vI (x7 + (1 : Int32)))]) dX1_goes_156 7 rfl rfl (Nat.le_of_ble_eq_true rfl) [1, 2, 3, 4, 5, 6, 7, 0] rfl ?_
          refine ea_goto (pc := 159) (tgt := 71) dX1_goes_159 rfl ?_
          exact ((ih 71 (x1 : Int32) (x2 : Int32) (x3 : Int32) (x4 : Int32) (x5 : Int32) (x6 : Int32) ((x7 + (1 : Int32)) : Int32) h _ _ E hs).2.1 rfl)
        · have E := (if_pos c25).symm.trans E
          refine ea_aload_n (pc := 90) dX1_goes_90 rfl 0 rfl ?_
          refine ea_getR (pc := 91) dX1_goes_91 ec_1 (k := 2) (Nat.le_of_ble_eq_true rfl) rfl (Or.inl ew_363) (hs.1 32 (by decide)).1 (hs.1 32 (by decide)).2.1 (hs.2 32 2 rfl) ?_
          refine ea_iload (pc := 94) dX1_goes_94 7 rfl ?_
          obtain ⟨z10, E⟩ := gd_some E
          refine ea_iald (pc := 96) dX1_goes_96 (hs.1 34 (by decide)).1 (hs.1 34 (by decide)).2.1 (ea_vpl (hs.1 34 (by decide)).2.2 z10) ?_
          refine ea_iload (pc := 97) dX1_goes_97 6 rfl ?_
          refine ea_icmp_ne (pc := 99) (tgt := 156) dX1_goes_99 rfl (fun c24 => ?_) (fun c24 => ?_)
          · have E := (if_neg c24).symm.trans E
            refine ea_iinc (pc := 156) (v := 1) (lv' := [(0, vR (some (b0 + 32))), (1, vI x1), (2, vI x2), (3, vI x3), (4, vI x4), (5, vI x5), (6, vI x6), (7, vI (x7 + (1 : Int32)))]) dX1_goes_156 7 rfl rfl (Nat.le_of_ble_eq_true rfl) [1, 2, 3, 4, 5, 6, 7, 0] rfl ?_
            refine ea_goto (pc := 159) (tgt := 71) dX1_goes_159 rfl ?_
            exact ((ih 71 (x1 : Int32) (x2 : Int32) (x3 : Int32) (x4 : Int32) (x5 : Int32) (x6 : Int32) ((x7 + (1 : Int32)) : Int32) h _ _ E hs).2.1 rfl)
          · have E := (if_pos c24).symm.trans E
            refine ea_aload_n (pc := 102) dX1_goes_102 rfl 0 rfl ?_
            refine ea_getR (pc := 103) dX1_goes_103 ec_1 (k := 12) (Nat.le_of_ble_eq_true rfl) rfl (Or.inl ew_378) (hs.1 32 (by decide)).1 (hs.1 32 (by decide)).2.1 (hs.2 32 12 rfl) ?_
            refine ea_iload (pc := 106) dX1_goes_106 5 rfl ?_
            refine ea_iload (pc := 108) dX1_goes_108 4 rfl ?_
            refine ea_aload_n (pc := 110) dX1_goes_110 rfl 0 rfl ?_
            refine ea_getR (pc := 111) dX1_goes_111 ec_1 (k := 14) (Nat.le_of_ble_eq_true rfl) rfl (Or.inl ew_380) (hs.1 32 (by decide)).1 (hs.1 32 (by decide)).2.1 (hs.2 32 14 rfl) ?_
            refine ea_iload (pc := 114) dX1_goes_114 7 rfl ?_
            obtain ⟨z11, E⟩ := gd_some E
            refine ea_aald23 (pc := 116) dX1_goes_116 (hs.1 31 (by decide)).1 (hs.1 31 (by decide)).2.1 (ea_vpl (hs.1 31 (by decide)).2.2 z11) rfl ?_
            obtain ⟨e12, E⟩ := gd_some E
            obtain ⟨f13, E⟩ := gd_some E
            refine ea_deref0 e12 ?_
            refine ea_getI (pc := 117) dX1_goes_117 ec_4 (k := 2) (Nat.le_of_ble_eq_true rfl) rfl (Or.inl ew_939) f13.1 f13.2 ?_
            obtain ⟨z14, E⟩ := gd_some E
            refine ea_callV (pc := 120) (d' := d - 1) (As := [vI x5, vI x4, vI (ea_i h (Option.getD (ea_r h (b0 + 31) (Int32.toNatClampNeg x7)) 0) 2)]) (st := []) dX1_goes_120 kX10_bestAtGoing (sX10_bestAtGoing (d := d - 1) (by omega) hs z14) (by omega) rfl (Nat.le_of_ble_eq_true rfl) ew_673 ew_674 ew_675 (ci := 10) rfl (by decide) (hs.1 13 (by decide)).1 (hs.1 13 (by decide)).2.1 ?_
            refine ea_lstore (pc := 123) (lv' := [(0, vR (some (b0 + 32))), (1, vI x1), (2, vI x2), (3, vI x3), (4, vI x4), (5, vI x5), (6, vI x6), (7, vI x7), (8, vJ (vX10_bestAtGoing b0 (x5 : Int32) (x4 : Int32) ((ea_i h (Option.getD (ea_r h (b0 + 31) (Int32.toNatClampNeg x7)) 0) 2) : Int32) h))]) dX1_goes_123 (Nat.le_of_ble_eq_true rfl) [1, 2, 3, 4, 5, 6, 7, 8, 0] rfl ?_
            refine ea_lload (pc := 125) dX1_goes_125 8 rfl ?_
            refine ea_iload_n (pc := 127) dX1_goes_127 rfl 1 rfl ?_
            refine ea_callS (pc := 128) (d' := d - 1) (As := [vJ (vX10_bestAtGoing b0 (x5 : Int32) (x4 : Int32) ((ea_i h (Option.getD (ea_r h (b0 + 31) (Int32.toNatClampNeg x7)) 0) 2) : Int32) h), vI x1]) (st := []) dX1_goes_128 kX10_begins (sX10_begins (d := d - 1) (by omega)) (by omega) rfl (Nat.le_of_ble_eq_true rfl) ew_677 ew_678 ?_
            refine ea_if_eq (pc := 131) (tgt := 156) dX1_goes_131 rfl (fun c23 => ?_) (fun c23 => ?_)
            · have E := (if_pos c23).symm.trans E
              refine ea_iinc (pc := 156) (v := 1) (lv' := [(0, vR (some (b0 + 32))), (1, vI x1), (2, vI x2), (3, vI x3), (4, vI x4), (5, vI x5), (6, vI x6), (7, vI (x7 + (1 : Int32)))]) dX1_goes_156 7 rfl rfl (Nat.le_of_ble_eq_true rfl) [1, 2, 3, 4, 5, 6, 7, 0] rfl ?_
              refine ea_goto (pc := 159) (tgt := 71) dX1_goes_159 rfl ?_
              exact ((ih 71 (x1 : Int32) (x2 : Int32) (x3 : Int32) (x4 : Int32) (x5 : Int32) (x6 : Int32) ((x7 + (1 : Int32)) : Int32) h _ _ E hs).2.1 rfl)
            · have E := (if_neg c23).symm.trans E
              refine ea_aload_n (pc := 134) dX1_goes_134 rfl 0 rfl ?_
              refine ea_iload (pc := 135) dX1_goes_135 7 rfl ?_
              refine ea_iload_n (pc := 137) dX1_goes_137 rfl 2 rfl ?_
              refine ea_iconst (pc := 138) dX1_goes_138 (v := 1) rfl ?_
              refine ea_iload (pc := 139) dX1_goes_139 5 rfl ?_
              obtain ⟨z16, E⟩ := gd_some E
              refine ea_callV (pc := 141) (d' := d - 1) (As := [vI x7, vI x2, vI 1, vI x5]) (st := []) dX1_goes_141 kX1_move (sX1_move_at32 (d := d - 1) (by omega) hs z16) (by omega) rfl (Nat.le_of_ble_eq_true rfl) ew_645 ew_646 ew_647 (ci := 1) rfl (by decide) (hs.1 32 (by decide)).1 (hs.1 32 (by decide)).2.1 ?_
              have hs17 : ShC b0 (wX1_move_at32 b0 (x7 : Int32) (x2 : Int32) (1 : Int32) (x5 : Int32) h) := shX1_move_at32 hs
              obtain ⟨H18, eH18, E⟩ := let_some E
              refine ea_nm eH18 ?_
              have hsH18 : ShC b0 H18 := by rw [eH18]; exact hs17
              refine ea_aload_n (pc := 144) dX1_goes_144 rfl 0 rfl ?_
              refine ea_getR (pc := 145) dX1_goes_145 ec_1 (k := 3) (Nat.le_of_ble_eq_true rfl) rfl (Or.inl ew_365) (hsH18.1 32 (by decide)).1 (hsH18.1 32 (by decide)).2.1 (hsH18.2 32 3 rfl) ?_
              refine ea_iload (pc := 148) dX1_goes_148 7 rfl ?_
              refine ea_lload (pc := 150) dX1_goes_150 8 rfl ?_
              refine ea_callS (pc := 152) (d' := d - 1) (As := [vJ (vX10_bestAtGoing b0 (x5 : Int32) (x4 : Int32) ((ea_i h (Option.getD (ea_r h (b0 + 31) (Int32.toNatClampNeg x7)) 0) 2) : Int32) h)]) (st := [vI x7, vR (some (b0 + 35))]) dX1_goes_152 kX10_leftOf (sX10_leftOf (d := d - 1) (by omega)) (by omega) rfl (Nat.le_of_ble_eq_true rfl) ew_689 ew_690 ?_
              obtain ⟨z20, E⟩ := gd_some E
              refine ea_iast (pc := 155) dX1_goes_155 (hsH18.1 35 (by decide)).1 (hsH18.1 35 (by decide)).2.1 (ea_vpl (hsH18.1 35 (by decide)).2.2 z20) ?_
              have hs21 : ShC b0 (ea_wi H18 (b0 + 35) (Int32.toNatClampNeg x7) (vX10_leftOf ((vX10_bestAtGoing b0 (x5 : Int32) (x4 : Int32) ((ea_i h (Option.getD (ea_r h (b0 + 31) (Int32.toNatClampNeg x7)) 0) 2) : Int32) h) : Int64) H18)) := ShC_wi hsH18
              obtain ⟨H22, eH22, E⟩ := let_some E
              refine ea_nm eH22 ?_
              have hsH22 : ShC b0 H22 := by rw [eH22]; exact hs21
              refine ea_iinc (pc := 156) (v := 1) (lv' := [(0, vR (some (b0 + 32))), (1, vI x1), (2, vI x2), (3, vI x3), (4, vI x4), (5, vI x5), (6, vI x6), (7, vI (x7 + (1 : Int32)))]) dX1_goes_156 7 rfl rfl (Nat.le_of_ble_eq_true rfl) [1, 2, 3, 4, 5, 6, 7, 0] rfl ?_
              refine ea_goto (pc := 159) (tgt := 71) dX1_goes_159 rfl ?_
              exact ((ih 71 (x1 : Int32) (x2 : Int32) (x3 : Int32) (x4 : Int32) (x5 : Int32) (x6 : Int32) ((x7 + (1 : Int32)) : Int32) H22 _ _ E hsH22).2.1 rfl)
    intro el
    subst el
    have E := (if_neg (by decide)).symm.trans E
    have E := (if_neg (by decide)).symm.trans E
    have E := (if_pos rfl).symm.trans E
    refine ea_aload_n (pc := 162) dX1_goes_162 rfl 0 rfl ?_
    refine ea_getR (pc := 163) dX1_goes_163 ec_1 (k := 9) (Nat.le_of_ble_eq_true rfl) rfl (Or.inl ew_375) (hs.1 32 (by decide)).1 (hs.1 32 (by decide)).2.1 (hs.2 32 9 rfl) ?_
    refine ea_iload (pc := 166) dX1_goes_166 3 rfl ?_
    obtain ⟨z27, E⟩ := gd_some E
    refine ea_iald (pc := 168) dX1_goes_168 (hs.1 41 (by decide)).1 (hs.1 41 (by decide)).2.1 (ea_vpl (hs.1 41 (by decide)).2.2 z27) ?_
    refine ea_if_le (pc := 169) (tgt := 192) dX1_goes_169 rfl (fun c35 => ?_) (fun c35 => ?_)
    · have E := (if_pos c35).symm.trans E
      exact ea_vretO (pc := 192) dX1_goes_192 rfl E
    · have E := (if_neg c35).symm.trans E
      refine ea_aload_n (pc := 172) dX1_goes_172 rfl 0 rfl ?_
      refine ea_getR (pc := 173) dX1_goes_173 ec_1 (k := 13) (Nat.le_of_ble_eq_true rfl) rfl (Or.inl ew_379) (hs.1 32 (by decide)).1 (hs.1 32 (by decide)).2.1 (hs.2 32 13 rfl) ?_
      refine ea_iload_n (pc := 176) dX1_goes_176 rfl 1 rfl ?_
      obtain ⟨z28, E⟩ := gd_some E
      refine ea_callV (pc := 177) (d' := d - 1) (As := [vI x3]) (st := []) dX1_goes_177 kX3_sitsIn (sX3_sitsIn (d := d - 1) (by omega) hs z28) (by omega) rfl (Nat.le_of_ble_eq_true rfl) ew_692 ew_693 ew_694 (ci := 3) rfl (by decide) (hs.1 16 (by decide)).1 (hs.1 16 (by decide)).2.1 ?_
      have hs29 : ShC b0 (wX3_sitsIn b0 (x3 : Int32) h) := shX3_sitsIn hs
      obtain ⟨H30, eH30, E⟩ := let_some E
      refine ea_nm eH30 ?_
      have hsH30 : ShC b0 H30 := by rw [eH30]; exact hs29
      refine ea_if_eq (pc := 180) (tgt := 192) dX1_goes_180 rfl (fun c34 => ?_) (fun c34 => ?_)
      · have E := (if_pos c34).symm.trans E
        exact ea_vretO (pc := 192) dX1_goes_192 rfl E
      · have E := (if_neg c34).symm.trans E
        refine ea_aload_n (pc := 183) dX1_goes_183 rfl 0 rfl ?_
        refine ea_iload (pc := 184) dX1_goes_184 3 rfl ?_
        refine ea_iload_n (pc := 186) dX1_goes_186 rfl 1 rfl ?_
        refine ea_iload (pc := 187) dX1_goes_187 2 rfl ?_
        obtain ⟨z31, E⟩ := gd_some E
        refine ea_callV (pc := 189) (d' := d - 1) (As := [vI x5, vI x3, vI x4]) (st := []) dX1_goes_189 kX1_sort (sX1_sort_at32 (d := d - 1) (by omega) hsH30 z31) (by omega) rfl (Nat.le_of_ble_eq_true rfl) ew_696 ew_698 ew_13 (ci := 1) rfl (by decide) (hsH30.1 32 (by decide)).1 (hsH30.1 32 (by decide)).2.1 ?_
        have hs32 : ShC b0 (wX1_sort_at32 b0 (x5 : Int32) (x3 : Int32) (x4 : Int32) H30) := shX1_sort_at32 hsH30
        obtain ⟨H33, eH33, E⟩ := let_some E
        refine ea_nm eH33 ?_
        have hsH33 : ShC b0 H33 := by rw [eH33]; exact hs32
        exact ea_vretO (pc := 192) dX1_goes_192 rfl E
noncomputable def qX1_goes_at32 (b0 : Nat) (x1 : Int32) (x2 : Int32) (h : ea_H) : Option (Unit × ea_H) := gX1_goes_at32 b0 1000000000 0 x1 x2 0 0 0 0 0 h
def okX1_goes_at32 (b0 : Nat) (x1 : Int32) (x2 : Int32) (h : ea_H) : Prop := ∃ x, qX1_goes_at32 b0 x1 x2 h = some x
noncomputable def wX1_goes_at32 (b0 : Nat) (x1 : Int32) (x2 : Int32) (h : ea_H) : ea_H := ((qX1_goes_at32 b0 x1 x2 h).getD ((), h)).2
theorem sX1_goes_at32 {d : Nat} {b0 : Nat} {x1 : Int32} {x2 : Int32} {h : ea_H} (hd : 5 ≤ d) (hs : ShC b0 h) (K : okX1_goes_at32 b0 x1 x2 h) : ea_Met mX1_goes d [vR (some (b0 + 32)), vI x1, vI x2] h none (wX1_goes_at32 b0 x1 x2 h) := by
  obtain ⟨⟨x, y⟩, K⟩ := K
  unfold wX1_goes_at32
  rw [K]
  unfold qX1_goes_at32 at K
  exact ea_enter rfl (Nat.le_of_ble_eq_true rfl) ((tX1_goes_at32 hd 1000000000 0 x1 x2 0 0 0 0 0 h x y K hs).1 rfl)
theorem zX1_goes_at32 {b0 : Nat} : ∀ (f lbl : Nat) (x1 : Int32) (x2 : Int32) (x3 : Int32) (x4 : Int32) (x5 : Int32) (x6 : Int32) (x7 : Int32) (h : ea_H) (r : Unit) (h' : ea_H), gX1_goes_at32 b0 f lbl x1 x2 x3 x4 x5 x6 x7 h = some (r, h') → ShC b0 h → ShC b0 h' := by
  intro f
  induction f with
  | zero => intro lbl x1 x2 x3 x4 x5 x6 x7 h r h' E; cases E
  | succ f ih =>
    intro lbl x1 x2 x3 x4 x5 x6 x7 h r h' E hs
    unfold gX1_goes_at32 at E
    by_cases el0 : lbl = 0
    · have E := (if_pos el0).symm.trans E
      obtain ⟨z4, E⟩ := gd_some E
      obtain ⟨z5, E⟩ := gd_some E
      by_cases c8 : (ea_i h (b0 + 40) (Int32.toNatClampNeg (ea_i h (b0 + 7) (Int32.toNatClampNeg (((8 : Int32) * (vX10_trainIn (x1 : Int32) h)) + (vX10_stopIn (x1 : Int32) h)))))) ≤ (0 : Int32)
      · have E := (if_pos c8).symm.trans E
        exact ih 162 0 0 ((vX10_trainIn (x1 : Int32) h) : Int32) ((vX10_stopIn (x1 : Int32) h) : Int32) ((((10 : Int32) * (vX10_dayIn (x1 : Int32) h)) + (vX10_trainIn (x1 : Int32) h)) : Int32) 0 0 h _ _ E hs
      have E := (if_neg c8).symm.trans E
      obtain ⟨z6, E⟩ := gd_some E
      by_cases c7 : (ea_i h (b0 + 12) (Int32.toNatClampNeg (((8 : Int32) * (((10 : Int32) * (vX10_dayIn (x1 : Int32) h)) + (vX10_trainIn (x1 : Int32) h))) + (vX10_stopIn (x1 : Int32) h)))) = (0 : Int32)
      · have E := (if_pos c7).symm.trans E
        exact ih 71 (x1 : Int32) (x2 : Int32) ((vX10_trainIn (x1 : Int32) h) : Int32) ((vX10_stopIn (x1 : Int32) h) : Int32) ((((10 : Int32) * (vX10_dayIn (x1 : Int32) h)) + (vX10_trainIn (x1 : Int32) h)) : Int32) ((ea_i h (b0 + 7) (Int32.toNatClampNeg (((8 : Int32) * (vX10_trainIn (x1 : Int32) h)) + (vX10_stopIn (x1 : Int32) h)))) : Int32) (0 : Int32) h _ _ E hs
      have E := (if_neg c7).symm.trans E
      exact ih 162 0 0 ((vX10_trainIn (x1 : Int32) h) : Int32) ((vX10_stopIn (x1 : Int32) h) : Int32) ((((10 : Int32) * (vX10_dayIn (x1 : Int32) h)) + (vX10_trainIn (x1 : Int32) h)) : Int32) 0 0 h _ _ E hs
    have E := (if_neg el0).symm.trans E
    by_cases el1 : lbl = 71
    · have E := (if_pos el1).symm.trans E
      by_cases c26 : (ea_i h (b0 + 32) 0) ≤ x7
      · have E := (if_pos c26).symm.trans E
        exact ih 162 0 0 (x3 : Int32) (x4 : Int32) (x5 : Int32) 0 0 h _ _ E hs
      have E := (if_neg c26).symm.trans E
      obtain ⟨z9, E⟩ := gd_some E
      by_cases c25 : (ea_i h (b0 + 33) (Int32.toNatClampNeg x7)) = (0 : Int32)
      · have E := (if_pos c25).symm.trans E
        obtain ⟨z10, E⟩ := gd_some E
        by_cases c24 : (ea_i h (b0 + 34) (Int32.toNatClampNeg x7)) = x6
        · have E := (if_pos c24).symm.trans E
          obtain ⟨z11, E⟩ := gd_some E
          obtain ⟨e12, E⟩ := gd_some E
          obtain ⟨f13, E⟩ := gd_some E
          obtain ⟨z14, E⟩ := gd_some E
          by_cases c23 : (vX10_begins ((vX10_bestAtGoing b0 (x5 : Int32) (x4 : Int32) ((ea_i h (Option.getD (ea_r h (b0 + 31) (Int32.toNatClampNeg x7)) 0) 2) : Int32) h) : Int64) (x1 : Int32) h) = (0 : Int32)
          · have E := (if_pos c23).symm.trans E
            exact ih 71 (x1 : Int32) (x2 : Int32) (x3 : Int32) (x4 : Int32) (x5 : Int32) (x6 : Int32) ((x7 + (1 : Int32)) : Int32) h _ _ E hs
          have E := (if_neg c23).symm.trans E
          obtain ⟨z16, E⟩ := gd_some E
          obtain ⟨H18, eH18, E⟩ := let_some E
          have hsH18 : ShC b0 H18 := by rw [eH18]; exact (shX1_move_at32 hs)
          obtain ⟨z20, E⟩ := gd_some E
          obtain ⟨H22, eH22, E⟩ := let_some E
          have hsH22 : ShC b0 H22 := by rw [eH22]; exact (ShC_wi hsH18)
          exact ih 71 (x1 : Int32) (x2 : Int32) (x3 : Int32) (x4 : Int32) (x5 : Int32) (x6 : Int32) ((x7 + (1 : Int32)) : Int32) H22 _ _ E hsH22
        have E := (if_neg c24).symm.trans E
        exact ih 71 (x1 : Int32) (x2 : Int32) (x3 : Int32) (x4 : Int32) (x5 : Int32) (x6 : Int32) ((x7 + (1 : Int32)) : Int32) h _ _ E hs
      have E := (if_neg c25).symm.trans E
      exact ih 71 (x1 : Int32) (x2 : Int32) (x3 : Int32) (x4 : Int32) (x5 : Int32) (x6 : Int32) ((x7 + (1 : Int32)) : Int32) h _ _ E hs
    have E := (if_neg el1).symm.trans E
    by_cases el2 : lbl = 162
    · have E := (if_pos el2).symm.trans E
      obtain ⟨z27, E⟩ := gd_some E
      by_cases c35 : (ea_i h (b0 + 41) (Int32.toNatClampNeg x5)) ≤ (0 : Int32)
      · have E := (if_pos c35).symm.trans E
        exact ea_shO E hs
      have E := (if_neg c35).symm.trans E
      obtain ⟨z28, E⟩ := gd_some E
      obtain ⟨H30, eH30, E⟩ := let_some E
      have hsH30 : ShC b0 H30 := by rw [eH30]; exact (shX3_sitsIn hs)
      by_cases c34 : (vX3_sitsIn b0 (x3 : Int32) h) = (0 : Int32)
      · have E := (if_pos c34).symm.trans E
        exact ea_shO E hsH30
      have E := (if_neg c34).symm.trans E
      obtain ⟨z31, E⟩ := gd_some E
      obtain ⟨H33, eH33, E⟩ := let_some E
      have hsH33 : ShC b0 H33 := by rw [eH33]; exact (shX1_sort_at32 hsH30)
      exact ea_shO E hsH33
    have E := (if_neg el2).symm.trans E
    cases E
theorem shX1_goes_at32 {b0 : Nat} {x1 : Int32} {x2 : Int32} {h : ea_H} (hs : ShC b0 h) : ShC b0 (wX1_goes_at32 b0 x1 x2 h) := by
  unfold wX1_goes_at32
  cases K : qX1_goes_at32 b0 x1 x2 h with
  | none => exact hs
  | some x => obtain ⟨x, y⟩ := x; unfold qX1_goes_at32 at K; exact zX1_goes_at32 _ _ _ _ _ _ _ _ _ _ _ _ K hs
noncomputable def gX1_goes_at42 (b0 : Nat) : Nat → Nat → Int32 → Int32 → Int32 → Int32 → Int32 → Int32 → Int32 → ea_H → Option (Unit × ea_H)
  | 0, _, _, _, _, _, _, _, _, _ => none
  | f + 1, lbl, x1, x2, x3, x4, x5, x6, x7, h =>
    if lbl = 0 then (gd (vp_in (((8 : Int32) * (vX10_trainIn (x1 : Int32) h)) + (vX10_stopIn (x1 : Int32) h)) 80) (gd (vp_in (ea_i h (b0 + 7) (Int32.toNatClampNeg (((8 : Int32) * (vX10_trainIn (x1 : Int32) h)) + (vX10_stopIn (x1 : Int32) h)))) 12) (if (ea_i h (b0 + 50) (Int32.toNatClampNeg (ea_i h (b0 + 7) (Int32.toNatClampNeg (((8 : Int32) * (vX10_trainIn (x1 : Int32) h)) + (vX10_stopIn (x1 : Int32) h)))))) ≤ (0 : Int32) then (gX1_goes_at42 b0 f 162 0 0 ((vX10_trainIn (x1 : Int32) h) : Int32) ((vX10_stopIn (x1 : Int32) h) : Int32) ((((10 : Int32) * (vX10_dayIn (x1 : Int32) h)) + (vX10_trainIn (x1 : Int32) h)) : Int32) 0 0 h) else (gd (vp_in (((8 : Int32) * (((10 : Int32) * (vX10_dayIn (x1 : Int32) h)) + (vX10_trainIn (x1 : Int32) h))) + (vX10_stopIn (x1 : Int32) h)) 560) (if (ea_i h (b0 + 12) (Int32.toNatClampNeg (((8 : Int32) * (((10 : Int32) * (vX10_dayIn (x1 : Int32) h)) + (vX10_trainIn (x1 : Int32) h))) + (vX10_stopIn (x1 : Int32) h)))) = (0 : Int32) then (gX1_goes_at42 b0 f 71 (x1 : Int32) (x2 : Int32) ((vX10_trainIn (x1 : Int32) h) : Int32) ((vX10_stopIn (x1 : Int32) h) : Int32) ((((10 : Int32) * (vX10_dayIn (x1 : Int32) h)) + (vX10_trainIn (x1 : Int32) h)) : Int32) ((ea_i h (b0 + 7) (Int32.toNatClampNeg (((8 : Int32) * (vX10_trainIn (x1 : Int32) h)) + (vX10_stopIn (x1 : Int32) h)))) : Int32) (0 : Int32) h) else (gX1_goes_at42 b0 f 162 0 0 ((vX10_trainIn (x1 : Int32) h) : Int32) ((vX10_stopIn (x1 : Int32) h) : Int32) ((((10 : Int32) * (vX10_dayIn (x1 : Int32) h)) + (vX10_trainIn (x1 : Int32) h)) : Int32) 0 0 h)))))) else
    if lbl = 71 then (if (ea_i h (b0 + 42) 0) ≤ x7 then (gX1_goes_at42 b0 f 162 0 0 (x3 : Int32) (x4 : Int32) (x5 : Int32) 0 0 h) else (gd (vp_in x7 120) (if (ea_i h (b0 + 43) (Int32.toNatClampNeg x7)) = (0 : Int32) then (gd (vp_in x7 120) (if (ea_i h (b0 + 44) (Int32.toNatClampNeg x7)) = x6 then (gd (vp_in x7 120) (gd ((ea_r h (b0 + 31) (Int32.toNatClampNeg x7)) = some (Option.getD (ea_r h (b0 + 31) (Int32.toNatClampNeg x7)) 0)) (gd (((Option.getD (ea_r h (b0 + 31) (Int32.toNatClampNeg x7)) 0) < ea_n h ∧ ea_c h (Option.getD (ea_r h (b0 + 31) (Int32.toNatClampNeg x7)) 0) = 4)) (gd ((okX10_bestAtGoing b0 (x5 : Int32) (x4 : Int32) ((ea_i h (Option.getD (ea_r h (b0 + 31) (Int32.toNatClampNeg x7)) 0) 2) : Int32) h)) (if (vX10_begins ((vX10_bestAtGoing b0 (x5 : Int32) (x4 : Int32) ((ea_i h (Option.getD (ea_r h (b0 + 31) (Int32.toNatClampNeg x7)) 0) 2) : Int32) h) : Int64) (x1 : Int32) h) = (0 : Int32) then (gX1_goes_at42 b0 f 71 (x1 : Int32) (x2 : Int32) (x3 : Int32) (x4 : Int32) (x5 : Int32) (x6 : Int32) ((x7 + (1 : Int32)) : Int32) h) else (gd ((okX1_move_at42 b0 (x7 : Int32) (x2 : Int32) (1 : Int32) (x5 : Int32) h)) (ea_let (wX1_move_at42 b0 (x7 : Int32) (x2 : Int32) (1 : Int32) (x5 : Int32) h) fun H18 => (gd (vp_in x7 120) (ea_let (ea_wi H18 (b0 + 45) (Int32.toNatClampNeg x7) (vX10_leftOf ((vX10_bestAtGoing b0 (x5 : Int32) (x4 : Int32) ((ea_i h (Option.getD (ea_r h (b0 + 31) (Int32.toNatClampNeg x7)) 0) 2) : Int32) h) : Int64) H18)) fun H22 => (gX1_goes_at42 b0 f 71 (x1 : Int32) (x2 : Int32) (x3 : Int32) (x4 : Int32) (x5 : Int32) (x6 : Int32) ((x7 + (1 : Int32)) : Int32) H22)))))))))) else (gX1_goes_at42 b0 f 71 (x1 : Int32) (x2 : Int32) (x3 : Int32) (x4 : Int32) (x5 : Int32) (x6 : Int32) ((x7 + (1 : Int32)) : Int32) h))) else (gX1_goes_at42 b0 f 71 (x1 : Int32) (x2 : Int32) (x3 : Int32) (x4 : Int32) (x5 : Int32) (x6 : Int32) ((x7 + (1 : Int32)) : Int32) h)))) else
    if lbl = 162 then (gd (vp_in x5 70) (if (ea_i h (b0 + 51) (Int32.toNatClampNeg x5)) ≤ (0 : Int32) then (some ((), h)) else (gd ((okX3_sitsIn b0 (x3 : Int32) h)) (ea_let (wX3_sitsIn b0 (x3 : Int32) h) fun H30 => (if (vX3_sitsIn b0 (x3 : Int32) h) = (0 : Int32) then (some ((), H30)) else (gd ((okX1_sort_at42 b0 (x5 : Int32) (x3 : Int32) (x4 : Int32) H30)) (ea_let (wX1_sort_at42 b0 (x5 : Int32) (x3 : Int32) (x4 : Int32) H30) fun H33 => (some ((), H33))))))))) else none
theorem tX1_goes_at42 {d : Nat} {b0 : Nat} {h0 : ea_H} (hd : 5 ≤ d) : ∀ (f lbl : Nat) (x1 : Int32) (x2 : Int32) (x3 : Int32) (x4 : Int32) (x5 : Int32) (x6 : Int32) (x7 : Int32) (h : ea_H) (r : Unit) (h' : ea_H), gX1_goes_at42 b0 f lbl x1 x2 x3 x4 x5 x6 x7 h = some (r, h') → ShC b0 h → (lbl = 0 → ea_W mX1_goes d h0 none h' 0 [(0, vR (some (b0 + 42))), (1, vI x1), (2, vI x2)] [] h) ∧ (lbl = 71 → ea_W mX1_goes d h0 none h' 71 [(0, vR (some (b0 + 42))), (1, vI x1), (2, vI x2), (3, vI x3), (4, vI x4), (5, vI x5), (6, vI x6), (7, vI x7)] [] h) ∧ (lbl = 162 → ea_W mX1_goes d h0 none h' 162 [(0, vR (some (b0 + 42))), (3, vI x3), (4, vI x4), (5, vI x5)] [] h) := by
  intro f
  induction f with
  | zero => intro lbl x1 x2 x3 x4 x5 x6 x7 h r h' E; cases E
  | succ f ih =>
    intro lbl x1 x2 x3 x4 x5 x6 x7 h r h' E hs
    unfold gX1_goes_at42 at E
    refine ⟨?_, ?_⟩
    · intro el
      subst el
      have E := (if_pos rfl).symm.trans E
      refine ea_iload_n (pc := 0) dX1_goes_0 rfl 1 rfl ?_
      refine ea_callS (pc := 1) (d' := d - 1) (As := [vI x1]) (st := []) dX1_goes_1 kX10_trainIn (sX10_trainIn (d := d - 1) (by omega)) (by omega) rfl (Nat.le_of_ble_eq_true rfl) ew_670 ew_597 ?_
      refine ea_istore_n (pc := 4) (lv' := [(0, vR (some (b0 + 42))), (1, vI x1), (2, vI x2), (3, vI (vX10_trainIn (x1 : Int32) h))]) dX1_goes_4 rfl (Nat.le_of_ble_eq_true rfl) [1, 2, 3, 0] rfl ?_
      refine ea_iload_n (pc := 5) dX1_goes_5 rfl 1 rfl ?_
      refine ea_callS (pc := 6) (d' := d - 1) (As := [vI x1]) (st := []) dX1_goes_6 kX10_stopIn (sX10_stopIn (d := d - 1) (by omega)) (by omega) rfl (Nat.le_of_ble_eq_true rfl) ew_671 ew_600 ?_
      refine ea_istore (pc := 9) (lv' := [(0, vR (some (b0 + 42))), (1, vI x1), (2, vI x2), (3, vI (vX10_trainIn (x1 : Int32) h)), (4, vI (vX10_stopIn (x1 : Int32) h))]) dX1_goes_9 (Nat.le_of_ble_eq_true rfl) [1, 2, 3, 4, 0] rfl ?_
      refine ea_bipush (pc := 11) dX1_goes_11 (v := 10) rfl ?_
      refine ea_iload_n (pc := 13) dX1_goes_13 rfl 1 rfl ?_
      refine ea_callS (pc := 14) (d' := d - 1) (As := [vI x1]) (st := [vI 10]) dX1_goes_14 kX10_dayIn (sX10_dayIn (d := d - 1) (by omega)) (by omega) rfl (Nat.le_of_ble_eq_true rfl) ew_672 ew_609 ?_
      refine ea_imul (pc := 17) dX1_goes_17 ?_
      refine ea_iload_n (pc := 18) dX1_goes_18 rfl 3 rfl ?_
      refine ea_iadd (pc := 19) dX1_goes_19 ?_
      refine ea_istore (pc := 20) (lv' := [(0, vR (some (b0 + 42))), (1, vI x1), (2, vI x2), (3, vI (vX10_trainIn (x1 : Int32) h)), (4, vI (vX10_stopIn (x1 : Int32) h)), (5, vI (((10 : Int32) * (vX10_dayIn (x1 : Int32) h)) + (vX10_trainIn (x1 : Int32) h)))]) dX1_goes_20 (Nat.le_of_ble_eq_true rfl) [1, 2, 3, 4, 5, 0] rfl ?_
      refine ea_aload_n (pc := 22) dX1_goes_22 rfl 0 rfl ?_
      refine ea_getR (pc := 23) dX1_goes_23 ec_1 (k := 11) (Nat.le_of_ble_eq_true rfl) rfl (Or.inl ew_377) (hs.1 42 (by decide)).1 (hs.1 42 (by decide)).2.1 (hs.2 42 11 rfl) ?_
      refine ea_getR (pc := 26) dX1_goes_26 ec_9 (k := 2) (Nat.le_of_ble_eq_true rfl) rfl (Or.inl ew_186) (hs.1 5 (by decide)).1 (hs.1 5 (by decide)).2.1 (hs.2 5 2 rfl) ?_
      refine ea_bipush (pc := 29) dX1_goes_29 (v := 8) rfl ?_
      refine ea_iload_n (pc := 31) dX1_goes_31 rfl 3 rfl ?_
      refine ea_imul (pc := 32) dX1_goes_32 ?_
      refine ea_iload (pc := 33) dX1_goes_33 4 rfl ?_
      refine ea_iadd (pc := 35) dX1_goes_35 ?_
      obtain ⟨z4, E⟩ := gd_some E
      refine ea_iald (pc := 36) dX1_goes_36 (hs.1 7 (by decide)).1 (hs.1 7 (by decide)).2.1 (ea_vpl (hs.1 7 (by decide)).2.2 z4) ?_
      refine ea_istore (pc := 37) (lv' := [(0, vR (some (b0 + 42))), (1, vI x1), (2, vI x2), (3, vI (vX10_trainIn (x1 : Int32) h)), (4, vI (vX10_stopIn (x1 : Int32) h)), (5, vI (((10 : Int32) * (vX10_dayIn (x1 : Int32) h)) + (vX10_trainIn (x1 : Int32) h))), (6, vI (ea_i h (b0 + 7) (Int32.toNatClampNeg (((8 : Int32) * (vX10_trainIn (x1 : Int32) h)) + (vX10_stopIn (x1 : Int32) h)))))]) dX1_goes_37 (Nat.le_of_ble_eq_true rfl) [1, 2, 3, 4, 5, 6, 0] rfl ?_
      refine ea_aload_n (pc := 39) dX1_goes_39 rfl 0 rfl ?_
      refine ea_getR (pc := 40) dX1_goes_40 ec_1 (k := 8) (Nat.le_of_ble_eq_true rfl) rfl (Or.inl ew_374) (hs.1 42 (by decide)).1 (hs.1 42 (by decide)).2.1 (hs.2 42 8 rfl) ?_
      refine ea_iload (pc := 43) dX1_goes_43 6 rfl ?_
      obtain ⟨z5, E⟩ := gd_some E
      refine ea_iald (pc := 45) dX1_goes_45 (hs.1 50 (by decide)).1 (hs.1 50 (by decide)).2.1 (ea_vpl (hs.1 50 (by decide)).2.2 z5) ?_
      refine ea_if_le (pc := 46) (tgt := 162) dX1_goes_46 rfl (fun c8 => ?_) (fun c8 => ?_)
      · have E := (if_pos c8).symm.trans E
        exact (ea_fewer [0, 3, 4, 5] rfl ((ih 162 0 0 ((vX10_trainIn (x1 : Int32) h) : Int32) ((vX10_stopIn (x1 : Int32) h) : Int32) ((((10 : Int32) * (vX10_dayIn (x1 : Int32) h)) + (vX10_trainIn (x1 : Int32) h)) : Int32) 0 0 h _ _ E hs).2.2 rfl))
      · have E := (if_neg c8).symm.trans E
        refine ea_aload_n (pc := 49) dX1_goes_49 rfl 0 rfl ?_
        refine ea_getR (pc := 50) dX1_goes_50 ec_1 (k := 11) (Nat.le_of_ble_eq_true rfl) rfl (Or.inl ew_377) (hs.1 42 (by decide)).1 (hs.1 42 (by decide)).2.1 (hs.2 42 11 rfl) ?_
        refine ea_getR (pc := 53) dX1_goes_53 ec_9 (k := 7) (Nat.le_of_ble_eq_true rfl) rfl (Or.inl ew_200) (hs.1 5 (by decide)).1 (hs.1 5 (by decide)).2.1 (hs.2 5 7 rfl) ?_
        refine ea_bipush (pc := 56) dX1_goes_56 (v := 8) rfl ?_
        refine ea_iload (pc := 58) dX1_goes_58 5 rfl ?_
        refine ea_imul (pc := 60) dX1_goes_60 ?_
        refine ea_iload (pc := 61) dX1_goes_61 4 rfl ?_
        refine ea_iadd (pc := 63) dX1_goes_63 ?_
        obtain ⟨z6, E⟩ := gd_some E
        refine ea_zald (pc := 64) dX1_goes_64 (hs.1 12 (by decide)).1 (hs.1 12 (by decide)).2.1 (ea_vpl (hs.1 12 (by decide)).2.2 z6) ?_
        refine ea_if_ne (pc := 65) (tgt := 162) dX1_goes_65 rfl (fun c7 => ?_) (fun c7 => ?_)
        · have E := (if_neg c7).symm.trans E
          exact (ea_fewer [0, 3, 4, 5] rfl ((ih 162 0 0 ((vX10_trainIn (x1 : Int32) h) : Int32) ((vX10_stopIn (x1 : Int32) h) : Int32) ((((10 : Int32) * (vX10_dayIn (x1 : Int32) h)) + (vX10_trainIn (x1 : Int32) h)) : Int32) 0 0 h _ _ E hs).2.2 rfl))
        · have E := (if_pos c7).symm.trans E
          refine ea_iconst (pc := 68) dX1_goes_68 (v := 0) rfl ?_
          refine ea_istore (pc := 69) (lv' := [(0, vR (some (b0 + 42))), (1, vI x1), (2, vI x2), (3, vI (vX10_trainIn (x1 : Int32) h)), (4, vI (vX10_stopIn (x1 : Int32) h)), (5, vI (((10 : Int32) * (vX10_dayIn (x1 : Int32) h)) + (vX10_trainIn (x1 : Int32) h))), (6, vI (ea_i h (b0 + 7) (Int32.toNatClampNeg (((8 : Int32) * (vX10_trainIn (x1 : Int32) h)) + (vX10_stopIn (x1 : Int32) h))))), (7, vI 0)]) dX1_goes_69 (Nat.le_of_ble_eq_true rfl) [1, 2, 3, 4, 5, 6, 7, 0] rfl ?_
          exact ((ih 71 (x1 : Int32) (x2 : Int32) ((vX10_trainIn (x1 : Int32) h) : Int32) ((vX10_stopIn (x1 : Int32) h) : Int32) ((((10 : Int32) * (vX10_dayIn (x1 : Int32) h)) + (vX10_trainIn (x1 : Int32) h)) : Int32) ((ea_i h (b0 + 7) (Int32.toNatClampNeg (((8 : Int32) * (vX10_trainIn (x1 : Int32) h)) + (vX10_stopIn (x1 : Int32) h)))) : Int32) (0 : Int32) h _ _ E hs).2.1 rfl)
    refine ⟨?_, ?_⟩
    · intro el
      subst el
      have E := (if_neg (by decide)).symm.trans E
      have E := (if_pos rfl).symm.trans E
      refine ea_iload (pc := 71) dX1_goes_71 7 rfl ?_
      refine ea_aload_n (pc := 73) dX1_goes_73 rfl 0 rfl ?_
      refine ea_getI (pc := 74) dX1_goes_74 ec_1 (k := 0) (Nat.le_of_ble_eq_true rfl) rfl (Or.inl ew_359) (hs.1 42 (by decide)).1 (hs.1 42 (by decide)).2.1 ?_
      refine ea_icmp_ge (pc := 77) (tgt := 162) dX1_goes_77 rfl (fun c26 => ?_) (fun c26 => ?_)
      · have E := (if_pos c26).symm.trans E
        exact (ea_fewer [0, 3, 4, 5] rfl ((ih 162 0 0 (x3 : Int32) (x4 : Int32) (x5 : Int32) 0 0 h _ _ E hs).2.2 rfl))
      · have E := (if_neg c26).symm.trans E
        refine ea_aload_n (pc := 80) dX1_goes_80 rfl 0 rfl ?_
        refine ea_getR (pc := 81) dX1_goes_81 ec_1 (k := 1) (Nat.le_of_ble_eq_true rfl) rfl (Or.inl ew_361) (hs.1 42 (by decide)).1 (hs.1 42 (by decide)).2.1 (hs.2 42 1 rfl) ?_
        refine ea_iload (pc := 84) dX1_goes_84 7 rfl ?_
        obtain ⟨z9, E⟩ := gd_some E
        refine ea_iald (pc := 86) dX1_goes_86 (hs.1 43 (by decide)).1 (hs.1 43 (by decide)).2.1 (ea_vpl (hs.1 43 (by decide)).2.2 z9) ?_
        refine ea_if_ne (pc := 87) (tgt := 156) dX1_goes_87 rfl (fun c25 => ?_) (fun c25 => ?_)
        · have E := (if_neg c25).symm.trans E
          refine ea_iinc (pc := 156) (v := 1) (lv' := [(0, vR (some (b0 + 42))), (1, vI x1), (2, vI x2), (3, vI x3), (4, vI x4), (5, vI x5), (6, vI x6), (7, vI (x7 + (1 : Int32)))]) dX1_goes_156 7 rfl rfl (Nat.le_of_ble_eq_true rfl) [1, 2, 3, 4, 5, 6, 7, 0] rfl ?_
          refine ea_goto (pc := 159) (tgt := 71) dX1_goes_159 rfl ?_
          exact ((ih 71 (x1 : Int32) (x2 : Int32) (x3 : Int32) (x4 : Int32) (x5 : Int32) (x6 : Int32) ((x7 + (1 : Int32)) : Int32) h _ _ E hs).2.1 rfl)
        · have E := (if_pos c25).symm.trans E
          refine ea_aload_n (pc := 90) dX1_goes_90 rfl 0 rfl ?_
          refine ea_getR (pc := 91) dX1_goes_91 ec_1 (k := 2) (Nat.le_of_ble_eq_true rfl) rfl (Or.inl ew_363) (hs.1 42 (by decide)).1 (hs.1 42 (by decide)).2.1 (hs.2 42 2 rfl) ?_
          refine ea_iload (pc := 94) dX1_goes_94 7 rfl ?_
          obtain ⟨z10, E⟩ := gd_some E
          refine ea_iald (pc := 96) dX1_goes_96 (hs.1 44 (by decide)).1 (hs.1 44 (by decide)).2.1 (ea_vpl (hs.1 44 (by decide)).2.2 z10) ?_
          refine ea_iload (pc := 97) dX1_goes_97 6 rfl ?_
          refine ea_icmp_ne (pc := 99) (tgt := 156) dX1_goes_99 rfl (fun c24 => ?_) (fun c24 => ?_)
          · have E := (if_neg c24).symm.trans E
            refine ea_iinc (pc := 156) (v := 1) (lv' := [(0, vR (some (b0 + 42))), (1, vI x1), (2, vI x2), (3, vI x3), (4, vI x4), (5, vI x5), (6, vI x6), (7, vI (x7 + (1 : Int32)))]) dX1_goes_156 7 rfl rfl (Nat.le_of_ble_eq_true rfl) [1, 2, 3, 4, 5, 6, 7, 0] rfl ?_
            refine ea_goto (pc := 159) (tgt := 71) dX1_goes_159 rfl ?_
            exact ((ih 71 (x1 : Int32) (x2 : Int32) (x3 : Int32) (x4 : Int32) (x5 : Int32) (x6 : Int32) ((x7 + (1 : Int32)) : Int32) h _ _ E hs).2.1 rfl)
          · have E := (if_pos c24).symm.trans E
            refine ea_aload_n (pc := 102) dX1_goes_102 rfl 0 rfl ?_
            refine ea_getR (pc := 103) dX1_goes_103 ec_1 (k := 12) (Nat.le_of_ble_eq_true rfl) rfl (Or.inl ew_378) (hs.1 42 (by decide)).1 (hs.1 42 (by decide)).2.1 (hs.2 42 12 rfl) ?_
            refine ea_iload (pc := 106) dX1_goes_106 5 rfl ?_
            refine ea_iload (pc := 108) dX1_goes_108 4 rfl ?_
            refine ea_aload_n (pc := 110) dX1_goes_110 rfl 0 rfl ?_
            refine ea_getR (pc := 111) dX1_goes_111 ec_1 (k := 14) (Nat.le_of_ble_eq_true rfl) rfl (Or.inl ew_380) (hs.1 42 (by decide)).1 (hs.1 42 (by decide)).2.1 (hs.2 42 14 rfl) ?_
            refine ea_iload (pc := 114) dX1_goes_114 7 rfl ?_
            obtain ⟨z11, E⟩ := gd_some E
            refine ea_aald23 (pc := 116) dX1_goes_116 (hs.1 31 (by decide)).1 (hs.1 31 (by decide)).2.1 (ea_vpl (hs.1 31 (by decide)).2.2 z11) rfl ?_
            obtain ⟨e12, E⟩ := gd_some E
            obtain ⟨f13, E⟩ := gd_some E
            refine ea_deref0 e12 ?_
            refine ea_getI (pc := 117) dX1_goes_117 ec_4 (k := 2) (Nat.le_of_ble_eq_true rfl) rfl (Or.inl ew_939) f13.1 f13.2 ?_
            obtain ⟨z14, E⟩ := gd_some E
            refine ea_callV (pc := 120) (d' := d - 1) (As := [vI x5, vI x4, vI (ea_i h (Option.getD (ea_r h (b0 + 31) (Int32.toNatClampNeg x7)) 0) 2)]) (st := []) dX1_goes_120 kX10_bestAtGoing (sX10_bestAtGoing (d := d - 1) (by omega) hs z14) (by omega) rfl (Nat.le_of_ble_eq_true rfl) ew_673 ew_674 ew_675 (ci := 10) rfl (by decide) (hs.1 13 (by decide)).1 (hs.1 13 (by decide)).2.1 ?_
            refine ea_lstore (pc := 123) (lv' := [(0, vR (some (b0 + 42))), (1, vI x1), (2, vI x2), (3, vI x3), (4, vI x4), (5, vI x5), (6, vI x6), (7, vI x7), (8, vJ (vX10_bestAtGoing b0 (x5 : Int32) (x4 : Int32) ((ea_i h (Option.getD (ea_r h (b0 + 31) (Int32.toNatClampNeg x7)) 0) 2) : Int32) h))]) dX1_goes_123 (Nat.le_of_ble_eq_true rfl) [1, 2, 3, 4, 5, 6, 7, 8, 0] rfl ?_
            refine ea_lload (pc := 125) dX1_goes_125 8 rfl ?_
            refine ea_iload_n (pc := 127) dX1_goes_127 rfl 1 rfl ?_
            refine ea_callS (pc := 128) (d' := d - 1) (As := [vJ (vX10_bestAtGoing b0 (x5 : Int32) (x4 : Int32) ((ea_i h (Option.getD (ea_r h (b0 + 31) (Int32.toNatClampNeg x7)) 0) 2) : Int32) h), vI x1]) (st := []) dX1_goes_128 kX10_begins (sX10_begins (d := d - 1) (by omega)) (by omega) rfl (Nat.le_of_ble_eq_true rfl) ew_677 ew_678 ?_
            refine ea_if_eq (pc := 131) (tgt := 156) dX1_goes_131 rfl (fun c23 => ?_) (fun c23 => ?_)
            · have E := (if_pos c23).symm.trans E
              refine ea_iinc (pc := 156) (v := 1) (lv' := [(0, vR (some (b0 + 42))), (1, vI x1), (2, vI x2), (3, vI x3), (4, vI x4), (5, vI x5), (6, vI x6), (7, vI (x7 + (1 : Int32)))]) dX1_goes_156 7 rfl rfl (Nat.le_of_ble_eq_true rfl) [1, 2, 3, 4, 5, 6, 7, 0] rfl ?_
              refine ea_goto (pc := 159) (tgt := 71) dX1_goes_159 rfl ?_
              exact ((ih 71 (x1 : Int32) (x2 : Int32) (x3 : Int32) (x4 : Int32) (x5 : Int32) (x6 : Int32) ((x7 + (1 : Int32)) : Int32) h _ _ E hs).2.1 rfl)
            · have E := (if_neg c23).symm.trans E
              refine ea_aload_n (pc := 134) dX1_goes_134 rfl 0 rfl ?_
              refine ea_iload (pc := 135) dX1_goes_135 7 rfl ?_
              refine ea_iload_n (pc := 137) dX1_goes_137 rfl 2 rfl ?_
              refine ea_iconst (pc := 138) dX1_goes_138 (v := 1) rfl ?_
              refine ea_iload (pc := 139) dX1_goes_139 5 rfl ?_
              obtain ⟨z16, E⟩ := gd_some E
              refine ea_callV (pc := 141) (d' := d - 1) (As := [vI x7, vI x2, vI 1, vI x5]) (st := []) dX1_goes_141 kX1_move (sX1_move_at42 (d := d - 1) (by omega) hs z16) (by omega) rfl (Nat.le_of_ble_eq_true rfl) ew_645 ew_646 ew_647 (ci := 1) rfl (by decide) (hs.1 42 (by decide)).1 (hs.1 42 (by decide)).2.1 ?_
              have hs17 : ShC b0 (wX1_move_at42 b0 (x7 : Int32) (x2 : Int32) (1 : Int32) (x5 : Int32) h) := shX1_move_at42 hs
              obtain ⟨H18, eH18, E⟩ := let_some E
              refine ea_nm eH18 ?_
              have hsH18 : ShC b0 H18 := by rw [eH18]; exact hs17
              refine ea_aload_n (pc := 144) dX1_goes_144 rfl 0 rfl ?_
              refine ea_getR (pc := 145) dX1_goes_145 ec_1 (k := 3) (Nat.le_of_ble_eq_true rfl) rfl (Or.inl ew_365) (hsH18.1 42 (by decide)).1 (hsH18.1 42 (by decide)).2.1 (hsH18.2 42 3 rfl) ?_
              refine ea_iload (pc := 148) dX1_goes_148 7 rfl ?_
              refine ea_lload (pc := 150) dX1_goes_150 8 rfl ?_
              refine ea_callS (pc := 152) (d' := d - 1) (As := [vJ (vX10_bestAtGoing b0 (x5 : Int32) (x4 : Int32) ((ea_i h (Option.getD (ea_r h (b0 + 31) (Int32.toNatClampNeg x7)) 0) 2) : Int32) h)]) (st := [vI x7, vR (some (b0 + 45))]) dX1_goes_152 kX10_leftOf (sX10_leftOf (d := d - 1) (by omega)) (by omega) rfl (Nat.le_of_ble_eq_true rfl) ew_689 ew_690 ?_
              obtain ⟨z20, E⟩ := gd_some E
              refine ea_iast (pc := 155) dX1_goes_155 (hsH18.1 45 (by decide)).1 (hsH18.1 45 (by decide)).2.1 (ea_vpl (hsH18.1 45 (by decide)).2.2 z20) ?_
              have hs21 : ShC b0 (ea_wi H18 (b0 + 45) (Int32.toNatClampNeg x7) (vX10_leftOf ((vX10_bestAtGoing b0 (x5 : Int32) (x4 : Int32) ((ea_i h (Option.getD (ea_r h (b0 + 31) (Int32.toNatClampNeg x7)) 0) 2) : Int32) h) : Int64) H18)) := ShC_wi hsH18
              obtain ⟨H22, eH22, E⟩ := let_some E
              refine ea_nm eH22 ?_
              have hsH22 : ShC b0 H22 := by rw [eH22]; exact hs21
              refine ea_iinc (pc := 156) (v := 1) (lv' := [(0, vR (some (b0 + 42))), (1, vI x1), (2, vI x2), (3, vI x3), (4, vI x4), (5, vI x5), (6, vI x6), (7, vI (x7 + (1 : Int32)))]) dX1_goes_156 7 rfl rfl (Nat.le_of_ble_eq_true rfl) [1, 2, 3, 4, 5, 6, 7, 0] rfl ?_
              refine ea_goto (pc := 159) (tgt := 71) dX1_goes_159 rfl ?_
              exact ((ih 71 (x1 : Int32) (x2 : Int32) (x3 : Int32) (x4 : Int32) (x5 : Int32) (x6 : Int32) ((x7 + (1 : Int32)) : Int32) H22 _ _ E hsH22).2.1 rfl)
    intro el
    subst el
    have E := (if_neg (by decide)).symm.trans E
    have E := (if_neg (by decide)).symm.trans E
    have E := (if_pos rfl).symm.trans E
    refine ea_aload_n (pc := 162) dX1_goes_162 rfl 0 rfl ?_
    refine ea_getR (pc := 163) dX1_goes_163 ec_1 (k := 9) (Nat.le_of_ble_eq_true rfl) rfl (Or.inl ew_375) (hs.1 42 (by decide)).1 (hs.1 42 (by decide)).2.1 (hs.2 42 9 rfl) ?_
    refine ea_iload (pc := 166) dX1_goes_166 3 rfl ?_
    obtain ⟨z27, E⟩ := gd_some E
    refine ea_iald (pc := 168) dX1_goes_168 (hs.1 51 (by decide)).1 (hs.1 51 (by decide)).2.1 (ea_vpl (hs.1 51 (by decide)).2.2 z27) ?_
    refine ea_if_le (pc := 169) (tgt := 192) dX1_goes_169 rfl (fun c35 => ?_) (fun c35 => ?_)
    · have E := (if_pos c35).symm.trans E
      exact ea_vretO (pc := 192) dX1_goes_192 rfl E
    · have E := (if_neg c35).symm.trans E
      refine ea_aload_n (pc := 172) dX1_goes_172 rfl 0 rfl ?_
      refine ea_getR (pc := 173) dX1_goes_173 ec_1 (k := 13) (Nat.le_of_ble_eq_true rfl) rfl (Or.inl ew_379) (hs.1 42 (by decide)).1 (hs.1 42 (by decide)).2.1 (hs.2 42 13 rfl) ?_
      refine ea_iload_n (pc := 176) dX1_goes_176 rfl 1 rfl ?_
      obtain ⟨z28, E⟩ := gd_some E
      refine ea_callV (pc := 177) (d' := d - 1) (As := [vI x3]) (st := []) dX1_goes_177 kX3_sitsIn (sX3_sitsIn (d := d - 1) (by omega) hs z28) (by omega) rfl (Nat.le_of_ble_eq_true rfl) ew_692 ew_693 ew_694 (ci := 3) rfl (by decide) (hs.1 16 (by decide)).1 (hs.1 16 (by decide)).2.1 ?_
      have hs29 : ShC b0 (wX3_sitsIn b0 (x3 : Int32) h) := shX3_sitsIn hs
      obtain ⟨H30, eH30, E⟩ := let_some E
      refine ea_nm eH30 ?_
      have hsH30 : ShC b0 H30 := by rw [eH30]; exact hs29
      refine ea_if_eq (pc := 180) (tgt := 192) dX1_goes_180 rfl (fun c34 => ?_) (fun c34 => ?_)
      · have E := (if_pos c34).symm.trans E
        exact ea_vretO (pc := 192) dX1_goes_192 rfl E
      · have E := (if_neg c34).symm.trans E
        refine ea_aload_n (pc := 183) dX1_goes_183 rfl 0 rfl ?_
        refine ea_iload (pc := 184) dX1_goes_184 3 rfl ?_
        refine ea_iload_n (pc := 186) dX1_goes_186 rfl 1 rfl ?_
        refine ea_iload (pc := 187) dX1_goes_187 2 rfl ?_
        obtain ⟨z31, E⟩ := gd_some E
        refine ea_callV (pc := 189) (d' := d - 1) (As := [vI x5, vI x3, vI x4]) (st := []) dX1_goes_189 kX1_sort (sX1_sort_at42 (d := d - 1) (by omega) hsH30 z31) (by omega) rfl (Nat.le_of_ble_eq_true rfl) ew_696 ew_698 ew_13 (ci := 1) rfl (by decide) (hsH30.1 42 (by decide)).1 (hsH30.1 42 (by decide)).2.1 ?_
        have hs32 : ShC b0 (wX1_sort_at42 b0 (x5 : Int32) (x3 : Int32) (x4 : Int32) H30) := shX1_sort_at42 hsH30
        obtain ⟨H33, eH33, E⟩ := let_some E
        refine ea_nm eH33 ?_
        have hsH33 : ShC b0 H33 := by rw [eH33]; exact hs32
        exact ea_vretO (pc := 192) dX1_goes_192 rfl E
noncomputable def qX1_goes_at42 (b0 : Nat) (x1 : Int32) (x2 : Int32) (h : ea_H) : Option (Unit × ea_H) := gX1_goes_at42 b0 1000000000 0 x1 x2 0 0 0 0 0 h
def okX1_goes_at42 (b0 : Nat) (x1 : Int32) (x2 : Int32) (h : ea_H) : Prop := ∃ x, qX1_goes_at42 b0 x1 x2 h = some x
noncomputable def wX1_goes_at42 (b0 : Nat) (x1 : Int32) (x2 : Int32) (h : ea_H) : ea_H := ((qX1_goes_at42 b0 x1 x2 h).getD ((), h)).2
theorem sX1_goes_at42 {d : Nat} {b0 : Nat} {x1 : Int32} {x2 : Int32} {h : ea_H} (hd : 5 ≤ d) (hs : ShC b0 h) (K : okX1_goes_at42 b0 x1 x2 h) : ea_Met mX1_goes d [vR (some (b0 + 42)), vI x1, vI x2] h none (wX1_goes_at42 b0 x1 x2 h) := by
  obtain ⟨⟨x, y⟩, K⟩ := K
  unfold wX1_goes_at42
  rw [K]
  unfold qX1_goes_at42 at K
  exact ea_enter rfl (Nat.le_of_ble_eq_true rfl) ((tX1_goes_at42 hd 1000000000 0 x1 x2 0 0 0 0 0 h x y K hs).1 rfl)
theorem zX1_goes_at42 {b0 : Nat} : ∀ (f lbl : Nat) (x1 : Int32) (x2 : Int32) (x3 : Int32) (x4 : Int32) (x5 : Int32) (x6 : Int32) (x7 : Int32) (h : ea_H) (r : Unit) (h' : ea_H), gX1_goes_at42 b0 f lbl x1 x2 x3 x4 x5 x6 x7 h = some (r, h') → ShC b0 h → ShC b0 h' := by
  intro f
  induction f with
  | zero => intro lbl x1 x2 x3 x4 x5 x6 x7 h r h' E; cases E
  | succ f ih =>
    intro lbl x1 x2 x3 x4 x5 x6 x7 h r h' E hs
    unfold gX1_goes_at42 at E
    by_cases el0 : lbl = 0
    · have E := (if_pos el0).symm.trans E
      obtain ⟨z4, E⟩ := gd_some E
      obtain ⟨z5, E⟩ := gd_some E
      by_cases c8 : (ea_i h (b0 + 50) (Int32.toNatClampNeg (ea_i h (b0 + 7) (Int32.toNatClampNeg (((8 : Int32) * (vX10_trainIn (x1 : Int32) h)) + (vX10_stopIn (x1 : Int32) h)))))) ≤ (0 : Int32)
      · have E := (if_pos c8).symm.trans E
        exact ih 162 0 0 ((vX10_trainIn (x1 : Int32) h) : Int32) ((vX10_stopIn (x1 : Int32) h) : Int32) ((((10 : Int32) * (vX10_dayIn (x1 : Int32) h)) + (vX10_trainIn (x1 : Int32) h)) : Int32) 0 0 h _ _ E hs
      have E := (if_neg c8).symm.trans E
      obtain ⟨z6, E⟩ := gd_some E
      by_cases c7 : (ea_i h (b0 + 12) (Int32.toNatClampNeg (((8 : Int32) * (((10 : Int32) * (vX10_dayIn (x1 : Int32) h)) + (vX10_trainIn (x1 : Int32) h))) + (vX10_stopIn (x1 : Int32) h)))) = (0 : Int32)
      · have E := (if_pos c7).symm.trans E
        exact ih 71 (x1 : Int32) (x2 : Int32) ((vX10_trainIn (x1 : Int32) h) : Int32) ((vX10_stopIn (x1 : Int32) h) : Int32) ((((10 : Int32) * (vX10_dayIn (x1 : Int32) h)) + (vX10_trainIn (x1 : Int32) h)) : Int32) ((ea_i h (b0 + 7) (Int32.toNatClampNeg (((8 : Int32) * (vX10_trainIn (x1 : Int32) h)) + (vX10_stopIn (x1 : Int32) h)))) : Int32) (0 : Int32) h _ _ E hs
      have E := (if_neg c7).symm.trans E
      exact ih 162 0 0 ((vX10_trainIn (x1 : Int32) h) : Int32) ((vX10_stopIn (x1 : Int32) h) : Int32) ((((10 : Int32) * (vX10_dayIn (x1 : Int32) h)) + (vX10_trainIn (x1 : Int32) h)) : Int32) 0 0 h _ _ E hs
    have E := (if_neg el0).symm.trans E
    by_cases el1 : lbl = 71
    · have E := (if_pos el1).symm.trans E
      by_cases c26 : (ea_i h (b0 + 42) 0) ≤ x7
      · have E := (if_pos c26).symm.trans E
        exact ih 162 0 0 (x3 : Int32) (x4 : Int32) (x5 : Int32) 0 0 h _ _ E hs
      have E := (if_neg c26).symm.trans E
      obtain ⟨z9, E⟩ := gd_some E
      by_cases c25 : (ea_i h (b0 + 43) (Int32.toNatClampNeg x7)) = (0 : Int32)
      · have E := (if_pos c25).symm.trans E
        obtain ⟨z10, E⟩ := gd_some E
        by_cases c24 : (ea_i h (b0 + 44) (Int32.toNatClampNeg x7)) = x6
        · have E := (if_pos c24).symm.trans E
          obtain ⟨z11, E⟩ := gd_some E
          obtain ⟨e12, E⟩ := gd_some E
          obtain ⟨f13, E⟩ := gd_some E
          obtain ⟨z14, E⟩ := gd_some E
          by_cases c23 : (vX10_begins ((vX10_bestAtGoing b0 (x5 : Int32) (x4 : Int32) ((ea_i h (Option.getD (ea_r h (b0 + 31) (Int32.toNatClampNeg x7)) 0) 2) : Int32) h) : Int64) (x1 : Int32) h) = (0 : Int32)
          · have E := (if_pos c23).symm.trans E
            exact ih 71 (x1 : Int32) (x2 : Int32) (x3 : Int32) (x4 : Int32) (x5 : Int32) (x6 : Int32) ((x7 + (1 : Int32)) : Int32) h _ _ E hs
          have E := (if_neg c23).symm.trans E
          obtain ⟨z16, E⟩ := gd_some E
          obtain ⟨H18, eH18, E⟩ := let_some E
          have hsH18 : ShC b0 H18 := by rw [eH18]; exact (shX1_move_at42 hs)
          obtain ⟨z20, E⟩ := gd_some E
          obtain ⟨H22, eH22, E⟩ := let_some E
          have hsH22 : ShC b0 H22 := by rw [eH22]; exact (ShC_wi hsH18)
          exact ih 71 (x1 : Int32) (x2 : Int32) (x3 : Int32) (x4 : Int32) (x5 : Int32) (x6 : Int32) ((x7 + (1 : Int32)) : Int32) H22 _ _ E hsH22
        have E := (if_neg c24).symm.trans E
        exact ih 71 (x1 : Int32) (x2 : Int32) (x3 : Int32) (x4 : Int32) (x5 : Int32) (x6 : Int32) ((x7 + (1 : Int32)) : Int32) h _ _ E hs
      have E := (if_neg c25).symm.trans E
      exact ih 71 (x1 : Int32) (x2 : Int32) (x3 : Int32) (x4 : Int32) (x5 : Int32) (x6 : Int32) ((x7 + (1 : Int32)) : Int32) h _ _ E hs
    have E := (if_neg el1).symm.trans E
    by_cases el2 : lbl = 162
    · have E := (if_pos el2).symm.trans E
      obtain ⟨z27, E⟩ := gd_some E
      by_cases c35 : (ea_i h (b0 + 51) (Int32.toNatClampNeg x5)) ≤ (0 : Int32)
      · have E := (if_pos c35).symm.trans E
        exact ea_shO E hs
      have E := (if_neg c35).symm.trans E
      obtain ⟨z28, E⟩ := gd_some E
      obtain ⟨H30, eH30, E⟩ := let_some E
      have hsH30 : ShC b0 H30 := by rw [eH30]; exact (shX3_sitsIn hs)
      by_cases c34 : (vX3_sitsIn b0 (x3 : Int32) h) = (0 : Int32)
      · have E := (if_pos c34).symm.trans E
        exact ea_shO E hsH30
      have E := (if_neg c34).symm.trans E
      obtain ⟨z31, E⟩ := gd_some E
      obtain ⟨H33, eH33, E⟩ := let_some E
      have hsH33 : ShC b0 H33 := by rw [eH33]; exact (shX1_sort_at42 hsH30)
      exact ea_shO E hsH33
    have E := (if_neg el2).symm.trans E
    cases E
theorem shX1_goes_at42 {b0 : Nat} {x1 : Int32} {x2 : Int32} {h : ea_H} (hs : ShC b0 h) : ShC b0 (wX1_goes_at42 b0 x1 x2 h) := by
  unfold wX1_goes_at42
  cases K : qX1_goes_at42 b0 x1 x2 h with
  | none => exact hs
  | some x => obtain ⟨x, y⟩ := x; unfold qX1_goes_at42 at K; exact zX1_goes_at42 _ _ _ _ _ _ _ _ _ _ _ _ K hs
noncomputable def gX8_chargeBy (b0 : Nat) : Nat → Nat → Option Nat → Option Nat → Int32 → ea_H → Option (Int32 × ea_H)
  | 0, _, _, _, _, _ => none
  | f + 1, lbl, r1, r2, x4, h =>
    if lbl = 0 then (gd ((okX8_isFree (r1 : Option Nat) (r2 : Option Nat) h)) (if (vX8_isFree (r1 : Option Nat) (r2 : Option Nat) h) = (0 : Int32) then (gd ((okX8_lineFor b0 (r1 : Option Nat) (r2 : Option Nat) h)) (ea_let (wX8_lineFor b0 (r1 : Option Nat) (r2 : Option Nat) h) fun H4 => (if (vX8_lineFor b0 (r1 : Option Nat) (r2 : Option Nat) h) = ((-1) : Int32) then (gX8_chargeBy b0 f 50 (r1 : Option Nat) (r2 : Option Nat) (0 : Int32) H4) else (gd (r1 = some (Option.getD r1 0)) (gd (((Option.getD r1 0) < ea_n H4 ∧ ea_c H4 (Option.getD r1 0) = 0)) (gd (r1 = some (Option.getD r1 0)) (gd (((Option.getD r1 0) < ea_n H4 ∧ ea_c H4 (Option.getD r1 0) = 0)) (gd ((ea_r H4 (Option.getD r1 0) 9) = some (Option.getD (ea_r H4 (Option.getD r1 0) 9) 0)) (gd (((Option.getD (ea_r H4 (Option.getD r1 0) 9) 0) < ea_n H4 ∧ ea_c H4 (Option.getD (ea_r H4 (Option.getD r1 0) 9) 0) = 20)) (gd (vp_in (vX8_lineFor b0 (r1 : Option Nat) (r2 : Option Nat) h) (ea_l H4 (Option.getD (ea_r H4 (Option.getD r1 0) 9) 0))) (gd ((okX8_worth b0 ((ea_r H4 (Option.getD r1 0) 11) : Option Nat) ((ea_i H4 (Option.getD (ea_r H4 (Option.getD r1 0) 9) 0) (Int32.toNatClampNeg (vX8_lineFor b0 (r1 : Option Nat) (r2 : Option Nat) h))) : Int32) H4)) (ea_let (wX8_worth b0 ((ea_r H4 (Option.getD r1 0) 11) : Option Nat) ((ea_i H4 (Option.getD (ea_r H4 (Option.getD r1 0) 9) 0) (Int32.toNatClampNeg (vX8_lineFor b0 (r1 : Option Nat) (r2 : Option Nat) h))) : Int32) H4) fun H14 => (gX8_chargeBy b0 f 50 (r1 : Option Nat) (r2 : Option Nat) ((if (99999 : Int32) < (if (vX8_worth b0 ((ea_r H4 (Option.getD r1 0) 11) : Option Nat) ((ea_i H4 (Option.getD (ea_r H4 (Option.getD r1 0) 9) 0) (Int32.toNatClampNeg (vX8_lineFor b0 (r1 : Option Nat) (r2 : Option Nat) h))) : Int32) H4) < (0 : Int32) then (0 : Int32) else (vX8_worth b0 ((ea_r H4 (Option.getD r1 0) 11) : Option Nat) ((ea_i H4 (Option.getD (ea_r H4 (Option.getD r1 0) 9) 0) (Int32.toNatClampNeg (vX8_lineFor b0 (r1 : Option Nat) (r2 : Option Nat) h))) : Int32) H4)) then (99999 : Int32) else (if (vX8_worth b0 ((ea_r H4 (Option.getD r1 0) 11) : Option Nat) ((ea_i H4 (Option.getD (ea_r H4 (Option.getD r1 0) 9) 0) (Int32.toNatClampNeg (vX8_lineFor b0 (r1 : Option Nat) (r2 : Option Nat) h))) : Int32) H4) < (0 : Int32) then (0 : Int32) else (vX8_worth b0 ((ea_r H4 (Option.getD r1 0) 11) : Option Nat) ((ea_i H4 (Option.getD (ea_r H4 (Option.getD r1 0) 9) 0) (Int32.toNatClampNeg (vX8_lineFor b0 (r1 : Option Nat) (r2 : Option Nat) h))) : Int32) H4))) : Int32) H14))))))))))))) else (some ((0 : Int32), h)))) else
    if lbl = 50 then (gd (r2 = some (Option.getD r2 0)) (gd (((Option.getD r2 0) < ea_n h ∧ ea_c h (Option.getD r2 0) = 4)) (gd (r1 = some (Option.getD r1 0)) (gd (((Option.getD r1 0) < ea_n h ∧ ea_c h (Option.getD r1 0) = 0)) (if ((ea_i h (Option.getD r2 0) 6) - (ea_i h (Option.getD r2 0) 6) / (1440 : Int32) * (1440 : Int32)) ≤ (ea_i h (Option.getD r1 0) 3) then (gX8_chargeBy b0 f 74 (r1 : Option Nat) (r2 : Option Nat) (x4 : Int32) h) else (gd (r1 = some (Option.getD r1 0)) (gd (((Option.getD r1 0) < ea_n h ∧ ea_c h (Option.getD r1 0) = 0)) (gX8_chargeBy b0 f 74 (r1 : Option Nat) (r2 : Option Nat) ((x4 + (ea_i h (Option.getD r1 0) 2)) : Int32) h)))))))) else
    if lbl = 74 then (gd (r2 = some (Option.getD r2 0)) (gd (((Option.getD r2 0) < ea_n h ∧ ea_c h (Option.getD r2 0) = 4)) (if (ea_i h (Option.getD r2 0) 0) = (3 : Int32) then (gd (r1 = some (Option.getD r1 0)) (gd (((Option.getD r1 0) < ea_n h ∧ ea_c h (Option.getD r1 0) = 0)) (gX8_chargeBy b0 f 91 (r1 : Option Nat) (r2 : Option Nat) ((x4 + (ea_i h (Option.getD r1 0) 5)) : Int32) h))) else (gX8_chargeBy b0 f 91 (r1 : Option Nat) (r2 : Option Nat) (x4 : Int32) h)))) else
    if lbl = 91 then (gd (r2 = some (Option.getD r2 0)) (gd (((Option.getD r2 0) < ea_n h ∧ ea_c h (Option.getD r2 0) = 4)) (if (ea_i h (Option.getD r2 0) 0) = (4 : Int32) then (gd (r1 = some (Option.getD r1 0)) (gd (((Option.getD r1 0) < ea_n h ∧ ea_c h (Option.getD r1 0) = 0)) (some ((x4 + (ea_i h (Option.getD r1 0) 6)), h)))) else (some (x4, h))))) else none
theorem tX8_chargeBy {d : Nat} {b0 : Nat} {h0 : ea_H} (hd : 4 ≤ d) : ∀ (f lbl : Nat) (r1 : Option Nat) (r2 : Option Nat) (x4 : Int32) (h : ea_H) (r : Int32) (h' : ea_H), gX8_chargeBy b0 f lbl r1 r2 x4 h = some (r, h') → ShC b0 h → (lbl = 0 → ea_W mX8_chargeBy d h0 (some (vI r)) h' 0 [(0, vR (some (b0 + 21))), (1, vR r1), (2, vR r2)] [] h) ∧ (lbl = 50 → ea_W mX8_chargeBy d h0 (some (vI r)) h' 50 [(1, vR r1), (2, vR r2), (4, vI x4)] [] h) ∧ (lbl = 74 → ea_W mX8_chargeBy d h0 (some (vI r)) h' 74 [(1, vR r1), (2, vR r2), (4, vI x4)] [] h) ∧ (lbl = 91 → ea_W mX8_chargeBy d h0 (some (vI r)) h' 91 [(1, vR r1), (2, vR r2), (4, vI x4)] [] h) := by
  intro f
  induction f with
  | zero => intro lbl r1 r2 x4 h r h' E; cases E
  | succ f ih =>
    intro lbl r1 r2 x4 h r h' E hs
    unfold gX8_chargeBy at E
    refine ⟨?_, ?_⟩
    · intro el
      subst el
      have E := (if_pos rfl).symm.trans E
      refine ea_aload_n (pc := 0) dX8_chargeBy_0 rfl 1 rfl ?_
      refine ea_aload_n (pc := 1) dX8_chargeBy_1 rfl 2 rfl ?_
      obtain ⟨z1, E⟩ := gd_some E
      refine ea_callS (pc := 2) (d' := d - 1) (As := [vR r1, vR r2]) (st := []) dX8_chargeBy_2 kX8_isFree (sX8_isFree (d := d - 1) (by omega) z1) (by omega) rfl (Nat.le_of_ble_eq_true rfl) ew_1043 ew_1044 ?_
      refine ea_if_eq (pc := 5) (tgt := 10) dX8_chargeBy_5 rfl (fun c16 => ?_) (fun c16 => ?_)
      · have E := (if_pos c16).symm.trans E
        refine ea_aload_n (pc := 10) dX8_chargeBy_10 rfl 0 rfl ?_
        refine ea_aload_n (pc := 11) dX8_chargeBy_11 rfl 1 rfl ?_
        refine ea_aload_n (pc := 12) dX8_chargeBy_12 rfl 2 rfl ?_
        obtain ⟨z2, E⟩ := gd_some E
        refine ea_callV (pc := 13) (d' := d - 1) (As := [vR r1, vR r2]) (st := []) dX8_chargeBy_13 kX8_lineFor (sX8_lineFor (d := d - 1) (by omega) hs z2) (by omega) rfl (Nat.le_of_ble_eq_true rfl) ew_1050 ew_1052 ew_34 (ci := 8) rfl (by decide) (hs.1 21 (by decide)).1 (hs.1 21 (by decide)).2.1 ?_
        have hs3 : ShC b0 (wX8_lineFor b0 (r1 : Option Nat) (r2 : Option Nat) h) := shX8_lineFor hs
        obtain ⟨H4, eH4, E⟩ := let_some E
        refine ea_nm eH4 ?_
        have hsH4 : ShC b0 H4 := by rw [eH4]; exact hs3
        refine ea_istore_n (pc := 16) (lv' := [(0, vR (some (b0 + 21))), (1, vR r1), (2, vR r2), (3, vI (vX8_lineFor b0 (r1 : Option Nat) (r2 : Option Nat) h))]) dX8_chargeBy_16 rfl (Nat.le_of_ble_eq_true rfl) [1, 2, 3, 0] rfl ?_
        refine ea_iconst (pc := 17) dX8_chargeBy_17 (v := 0) rfl ?_
        refine ea_istore (pc := 18) (lv' := [(0, vR (some (b0 + 21))), (1, vR r1), (2, vR r2), (3, vI (vX8_lineFor b0 (r1 : Option Nat) (r2 : Option Nat) h)), (4, vI 0)]) dX8_chargeBy_18 (Nat.le_of_ble_eq_true rfl) [1, 2, 3, 4, 0] rfl ?_
        refine ea_iload_n (pc := 20) dX8_chargeBy_20 rfl 3 rfl ?_
        refine ea_iconst (pc := 21) dX8_chargeBy_21 (v := (-1)) rfl ?_
        refine ea_icmp_eq (pc := 22) (tgt := 50) dX8_chargeBy_22 rfl (fun c15 => ?_) (fun c15 => ?_)
        · have E := (if_pos c15).symm.trans E
          exact (ea_fewer [1, 2, 4] rfl ((ih 50 (r1 : Option Nat) (r2 : Option Nat) (0 : Int32) H4 _ _ E hsH4).2.1 rfl))
        · have E := (if_neg c15).symm.trans E
          refine ea_aload_n (pc := 25) dX8_chargeBy_25 rfl 0 rfl ?_
          refine ea_aload_n (pc := 26) dX8_chargeBy_26 rfl 1 rfl ?_
          obtain ⟨e5, E⟩ := gd_some E
          obtain ⟨f6, E⟩ := gd_some E
          refine ea_deref0 e5 ?_
          refine ea_getR (pc := 27) dX8_chargeBy_27 ec_0 (k := 11) (Nat.le_of_ble_eq_true rfl) rfl (Or.inl ew_825) f6.1 f6.2 rfl ?_
          refine ea_aload_n (pc := 30) dX8_chargeBy_30 rfl 1 rfl ?_
          obtain ⟨e7, E⟩ := gd_some E
          obtain ⟨f8, E⟩ := gd_some E
          refine ea_deref0 e7 ?_
          refine ea_getR (pc := 31) dX8_chargeBy_31 ec_0 (k := 9) (Nat.le_of_ble_eq_true rfl) rfl (Or.inl ew_820) f8.1 f8.2 rfl ?_
          refine ea_iload_n (pc := 34) dX8_chargeBy_34 rfl 3 rfl ?_
          obtain ⟨e9, E⟩ := gd_some E
          obtain ⟨f10, E⟩ := gd_some E
          obtain ⟨z11, E⟩ := gd_some E
          refine ea_deref1 e9 ?_
          refine ea_iald (pc := 35) dX8_chargeBy_35 f10.1 f10.2 z11 ?_
          obtain ⟨z12, E⟩ := gd_some E
          refine ea_callV (pc := 36) (d' := d - 1) (As := [vR (ea_r H4 (Option.getD r1 0) 11), vI (ea_i H4 (Option.getD (ea_r H4 (Option.getD r1 0) 9) 0) (Int32.toNatClampNeg (vX8_lineFor b0 (r1 : Option Nat) (r2 : Option Nat) h)))]) (st := []) dX8_chargeBy_36 kX8_worth (sX8_worth (d := d - 1) (by omega) hsH4 z12) (by omega) rfl (Nat.le_of_ble_eq_true rfl) ew_1058 ew_1060 ew_36 (ci := 8) rfl (by decide) (hsH4.1 21 (by decide)).1 (hsH4.1 21 (by decide)).2.1 ?_
          have hs13 : ShC b0 (wX8_worth b0 ((ea_r H4 (Option.getD r1 0) 11) : Option Nat) ((ea_i H4 (Option.getD (ea_r H4 (Option.getD r1 0) 9) 0) (Int32.toNatClampNeg (vX8_lineFor b0 (r1 : Option Nat) (r2 : Option Nat) h))) : Int32) H4) := shX8_worth hsH4
          obtain ⟨H14, eH14, E⟩ := let_some E
          refine ea_nm eH14 ?_
          have hsH14 : ShC b0 H14 := by rw [eH14]; exact hs13
          refine ea_iconst (pc := 39) dX8_chargeBy_39 (v := 0) rfl ?_
          refine ea_mmaxI (pc := 40) dX8_chargeBy_40 ew_1065 ew_1022 ew_112 ew_1023 (by omega) (Nat.le_of_ble_eq_true rfl) ?_
          refine ea_ldc (pc := 43) dX8_chargeBy_43 ew_1066 ?_
          refine ea_mminI (pc := 45) dX8_chargeBy_45 ew_1067 ew_154 ew_112 ew_155 (by omega) (Nat.le_of_ble_eq_true rfl) ?_
          refine ea_istore (pc := 48) (lv' := [(1, vR r1), (2, vR r2), (4, vI (if (99999 : Int32) < (if (vX8_worth b0 ((ea_r H4 (Option.getD r1 0) 11) : Option Nat) ((ea_i H4 (Option.getD (ea_r H4 (Option.getD r1 0) 9) 0) (Int32.toNatClampNeg (vX8_lineFor b0 (r1 : Option Nat) (r2 : Option Nat) h))) : Int32) H4) < (0 : Int32) then (0 : Int32) else (vX8_worth b0 ((ea_r H4 (Option.getD r1 0) 11) : Option Nat) ((ea_i H4 (Option.getD (ea_r H4 (Option.getD r1 0) 9) 0) (Int32.toNatClampNeg (vX8_lineFor b0 (r1 : Option Nat) (r2 : Option Nat) h))) : Int32) H4)) then (99999 : Int32) else (if (vX8_worth b0 ((ea_r H4 (Option.getD r1 0) 11) : Option Nat) ((ea_i H4 (Option.getD (ea_r H4 (Option.getD r1 0) 9) 0) (Int32.toNatClampNeg (vX8_lineFor b0 (r1 : Option Nat) (r2 : Option Nat) h))) : Int32) H4) < (0 : Int32) then (0 : Int32) else (vX8_worth b0 ((ea_r H4 (Option.getD r1 0) 11) : Option Nat) ((ea_i H4 (Option.getD (ea_r H4 (Option.getD r1 0) 9) 0) (Int32.toNatClampNeg (vX8_lineFor b0 (r1 : Option Nat) (r2 : Option Nat) h))) : Int32) H4))))]) dX8_chargeBy_48 (Nat.le_of_ble_eq_true rfl) [2, 3, 0] rfl ?_
          exact ((ih 50 (r1 : Option Nat) (r2 : Option Nat) ((if (99999 : Int32) < (if (vX8_worth b0 ((ea_r H4 (Option.getD r1 0) 11) : Option Nat) ((ea_i H4 (Option.getD (ea_r H4 (Option.getD r1 0) 9) 0) (Int32.toNatClampNeg (vX8_lineFor b0 (r1 : Option Nat) (r2 : Option Nat) h))) : Int32) H4) < (0 : Int32) then (0 : Int32) else (vX8_worth b0 ((ea_r H4 (Option.getD r1 0) 11) : Option Nat) ((ea_i H4 (Option.getD (ea_r H4 (Option.getD r1 0) 9) 0) (Int32.toNatClampNeg (vX8_lineFor b0 (r1 : Option Nat) (r2 : Option Nat) h))) : Int32) H4)) then (99999 : Int32) else (if (vX8_worth b0 ((ea_r H4 (Option.getD r1 0) 11) : Option Nat) ((ea_i H4 (Option.getD (ea_r H4 (Option.getD r1 0) 9) 0) (Int32.toNatClampNeg (vX8_lineFor b0 (r1 : Option Nat) (r2 : Option Nat) h))) : Int32) H4) < (0 : Int32) then (0 : Int32) else (vX8_worth b0 ((ea_r H4 (Option.getD r1 0) 11) : Option Nat) ((ea_i H4 (Option.getD (ea_r H4 (Option.getD r1 0) 9) 0) (Int32.toNatClampNeg (vX8_lineFor b0 (r1 : Option Nat) (r2 : Option Nat) h))) : Int32) H4))) : Int32) H14 _ _ E hsH14).2.1 rfl)
      · have E := (if_neg c16).symm.trans E
        refine ea_iconst (pc := 8) dX8_chargeBy_8 (v := 0) rfl ?_
        exact ea_iretO (pc := 9) dX8_chargeBy_9 rfl rfl E
    refine ⟨?_, ?_⟩
    · intro el
      subst el
      have E := (if_neg (by decide)).symm.trans E
      have E := (if_pos rfl).symm.trans E
      refine ea_aload_n (pc := 50) dX8_chargeBy_50 rfl 1 rfl ?_
      obtain ⟨e17, E⟩ := gd_some E
      obtain ⟨f18, E⟩ := gd_some E
      refine ea_deref0 e17 ?_
      refine ea_getI (pc := 51) dX8_chargeBy_51 ec_4 (k := 6) (Nat.le_of_ble_eq_true rfl) rfl (Or.inl ew_950) f18.1 f18.2 ?_
      refine ea_sipush (pc := 54) dX8_chargeBy_54 (v := 1440) rfl ?_
      refine ea_irem (pc := 57) dX8_chargeBy_57 (by decide) ?_
      refine ea_aload_n (pc := 58) dX8_chargeBy_58 rfl 0 rfl ?_
      obtain ⟨e19, E⟩ := gd_some E
      obtain ⟨f20, E⟩ := gd_some E
      refine ea_deref0 e19 ?_
      refine ea_getI (pc := 59) dX8_chargeBy_59 ec_0 (k := 3) (Nat.le_of_ble_eq_true rfl) rfl (Or.inl ew_801) f20.1 f20.2 ?_
      refine ea_icmp_le (pc := 62) (tgt := 74) dX8_chargeBy_62 rfl (fun c23 => ?_) (fun c23 => ?_)
      · have E := (if_pos c23).symm.trans E
        exact ((ih 74 (r1 : Option Nat) (r2 : Option Nat) (x4 : Int32) h _ _ E hs).2.2.1 rfl)
      · have E := (if_neg c23).symm.trans E
        refine ea_iload (pc := 65) dX8_chargeBy_65 2 rfl ?_
        refine ea_aload_n (pc := 67) dX8_chargeBy_67 rfl 0 rfl ?_
        obtain ⟨e21, E⟩ := gd_some E
        obtain ⟨f22, E⟩ := gd_some E
        refine ea_deref0 e21 ?_
        refine ea_getI (pc := 68) dX8_chargeBy_68 ec_0 (k := 2) (Nat.le_of_ble_eq_true rfl) rfl (Or.inl ew_797) f22.1 f22.2 ?_
        refine ea_iadd (pc := 71) dX8_chargeBy_71 ?_
        refine ea_istore (pc := 72) (lv' := [(1, vR r1), (2, vR r2), (4, vI (x4 + (ea_i h (Option.getD r1 0) 2)))]) dX8_chargeBy_72 (Nat.le_of_ble_eq_true rfl) [1, 2, 0] rfl ?_
        exact ((ih 74 (r1 : Option Nat) (r2 : Option Nat) ((x4 + (ea_i h (Option.getD r1 0) 2)) : Int32) h _ _ E hs).2.2.1 rfl)
    refine ⟨?_, ?_⟩
    · intro el
      subst el
      have E := (if_neg (by decide)).symm.trans E
      have E := (if_neg (by decide)).symm.trans E
      have E := (if_pos rfl).symm.trans E
      refine ea_aload_n (pc := 74) dX8_chargeBy_74 rfl 1 rfl ?_
      obtain ⟨e24, E⟩ := gd_some E
      obtain ⟨f25, E⟩ := gd_some E
      refine ea_deref0 e24 ?_
      refine ea_getI (pc := 75) dX8_chargeBy_75 ec_4 (k := 0) (Nat.le_of_ble_eq_true rfl) rfl (Or.inl ew_934) f25.1 f25.2 ?_
      refine ea_iconst (pc := 78) dX8_chargeBy_78 (v := 3) rfl ?_
      refine ea_icmp_ne (pc := 79) (tgt := 91) dX8_chargeBy_79 rfl (fun c28 => ?_) (fun c28 => ?_)
      · have E := (if_neg c28).symm.trans E
        exact ((ih 91 (r1 : Option Nat) (r2 : Option Nat) (x4 : Int32) h _ _ E hs).2.2.2 rfl)
      · have E := (if_pos c28).symm.trans E
        refine ea_iload (pc := 82) dX8_chargeBy_82 2 rfl ?_
        refine ea_aload_n (pc := 84) dX8_chargeBy_84 rfl 0 rfl ?_
        obtain ⟨e26, E⟩ := gd_some E
        obtain ⟨f27, E⟩ := gd_some E
        refine ea_deref0 e26 ?_
        refine ea_getI (pc := 85) dX8_chargeBy_85 ec_0 (k := 5) (Nat.le_of_ble_eq_true rfl) rfl (Or.inl ew_807) f27.1 f27.2 ?_
        refine ea_iadd (pc := 88) dX8_chargeBy_88 ?_
        refine ea_istore (pc := 89) (lv' := [(1, vR r1), (2, vR r2), (4, vI (x4 + (ea_i h (Option.getD r1 0) 5)))]) dX8_chargeBy_89 (Nat.le_of_ble_eq_true rfl) [1, 2, 0] rfl ?_
        exact ((ih 91 (r1 : Option Nat) (r2 : Option Nat) ((x4 + (ea_i h (Option.getD r1 0) 5)) : Int32) h _ _ E hs).2.2.2 rfl)
    intro el
    subst el
    have E := (if_neg (by decide)).symm.trans E
    have E := (if_neg (by decide)).symm.trans E
    have E := (if_neg (by decide)).symm.trans E
    have E := (if_pos rfl).symm.trans E
    refine ea_aload_n (pc := 91) dX8_chargeBy_91 rfl 1 rfl ?_
    obtain ⟨e29, E⟩ := gd_some E
    obtain ⟨f30, E⟩ := gd_some E
    refine ea_deref0 e29 ?_
    refine ea_getI (pc := 92) dX8_chargeBy_92 ec_4 (k := 0) (Nat.le_of_ble_eq_true rfl) rfl (Or.inl ew_934) f30.1 f30.2 ?_
    refine ea_iconst (pc := 95) dX8_chargeBy_95 (v := 4) rfl ?_
    refine ea_icmp_ne (pc := 96) (tgt := 108) dX8_chargeBy_96 rfl (fun c33 => ?_) (fun c33 => ?_)
    · have E := (if_neg c33).symm.trans E
      refine ea_iload (pc := 108) dX8_chargeBy_108 2 rfl ?_
      exact ea_iretO (pc := 110) dX8_chargeBy_110 rfl rfl E
    · have E := (if_pos c33).symm.trans E
      refine ea_iload (pc := 99) dX8_chargeBy_99 2 rfl ?_
      refine ea_aload_n (pc := 101) dX8_chargeBy_101 rfl 0 rfl ?_
      obtain ⟨e31, E⟩ := gd_some E
      obtain ⟨f32, E⟩ := gd_some E
      refine ea_deref0 e31 ?_
      refine ea_getI (pc := 102) dX8_chargeBy_102 ec_0 (k := 6) (Nat.le_of_ble_eq_true rfl) rfl (Or.inl ew_810) f32.1 f32.2 ?_
      refine ea_iadd (pc := 105) dX8_chargeBy_105 ?_
      refine ea_istore (pc := 106) (lv' := [(4, vI (x4 + (ea_i h (Option.getD r1 0) 6)))]) dX8_chargeBy_106 (Nat.le_of_ble_eq_true rfl) [0] rfl ?_
      refine ea_iload (pc := 108) dX8_chargeBy_108 0 rfl ?_
      exact ea_iretO (pc := 110) dX8_chargeBy_110 rfl rfl E
noncomputable def qX8_chargeBy (b0 : Nat) (r1 : Option Nat) (r2 : Option Nat) (h : ea_H) : Option (Int32 × ea_H) := gX8_chargeBy b0 1000000000 0 r1 r2 0 h
def okX8_chargeBy (b0 : Nat) (r1 : Option Nat) (r2 : Option Nat) (h : ea_H) : Prop := ∃ x, qX8_chargeBy b0 r1 r2 h = some x
noncomputable def vX8_chargeBy (b0 : Nat) (r1 : Option Nat) (r2 : Option Nat) (h : ea_H) : Int32 := ((qX8_chargeBy b0 r1 r2 h).getD (0, h)).1
noncomputable def wX8_chargeBy (b0 : Nat) (r1 : Option Nat) (r2 : Option Nat) (h : ea_H) : ea_H := ((qX8_chargeBy b0 r1 r2 h).getD (0, h)).2
theorem sX8_chargeBy {d : Nat} {b0 : Nat} {r1 : Option Nat} {r2 : Option Nat} {h : ea_H} (hd : 4 ≤ d) (hs : ShC b0 h) (K : okX8_chargeBy b0 r1 r2 h) : ea_Met mX8_chargeBy d [vR (some (b0 + 21)), vR r1, vR r2] h (some (vI (vX8_chargeBy b0 r1 r2 h))) (wX8_chargeBy b0 r1 r2 h) := by
  obtain ⟨⟨x, y⟩, K⟩ := K
  unfold wX8_chargeBy vX8_chargeBy
  rw [K]
  unfold qX8_chargeBy at K
  exact ea_enter rfl (Nat.le_of_ble_eq_true rfl) ((tX8_chargeBy hd 1000000000 0 r1 r2 0 h x y K hs).1 rfl)
theorem zX8_chargeBy {b0 : Nat} : ∀ (f lbl : Nat) (r1 : Option Nat) (r2 : Option Nat) (x4 : Int32) (h : ea_H) (r : Int32) (h' : ea_H), gX8_chargeBy b0 f lbl r1 r2 x4 h = some (r, h') → ShC b0 h → ShC b0 h' := by
  intro f
  induction f with
  | zero => intro lbl r1 r2 x4 h r h' E; cases E
  | succ f ih =>
    intro lbl r1 r2 x4 h r h' E hs
    unfold gX8_chargeBy at E
    by_cases el0 : lbl = 0
    · have E := (if_pos el0).symm.trans E
      obtain ⟨z1, E⟩ := gd_some E
      by_cases c16 : (vX8_isFree (r1 : Option Nat) (r2 : Option Nat) h) = (0 : Int32)
      · have E := (if_pos c16).symm.trans E
        obtain ⟨z2, E⟩ := gd_some E
        obtain ⟨H4, eH4, E⟩ := let_some E
        have hsH4 : ShC b0 H4 := by rw [eH4]; exact (shX8_lineFor hs)
        by_cases c15 : (vX8_lineFor b0 (r1 : Option Nat) (r2 : Option Nat) h) = ((-1) : Int32)
        · have E := (if_pos c15).symm.trans E
          exact ih 50 (r1 : Option Nat) (r2 : Option Nat) (0 : Int32) H4 _ _ E hsH4
        have E := (if_neg c15).symm.trans E
        obtain ⟨e5, E⟩ := gd_some E
        obtain ⟨f6, E⟩ := gd_some E
        obtain ⟨e7, E⟩ := gd_some E
        obtain ⟨f8, E⟩ := gd_some E
        obtain ⟨e9, E⟩ := gd_some E
        obtain ⟨f10, E⟩ := gd_some E
        obtain ⟨z11, E⟩ := gd_some E
        obtain ⟨z12, E⟩ := gd_some E
        obtain ⟨H14, eH14, E⟩ := let_some E
        have hsH14 : ShC b0 H14 := by rw [eH14]; exact (shX8_worth hsH4)
        exact ih 50 (r1 : Option Nat) (r2 : Option Nat) ((if (99999 : Int32) < (if (vX8_worth b0 ((ea_r H4 (Option.getD r1 0) 11) : Option Nat) ((ea_i H4 (Option.getD (ea_r H4 (Option.getD r1 0) 9) 0) (Int32.toNatClampNeg (vX8_lineFor b0 (r1 : Option Nat) (r2 : Option Nat) h))) : Int32) H4) < (0 : Int32) then (0 : Int32) else (vX8_worth b0 ((ea_r H4 (Option.getD r1 0) 11) : Option Nat) ((ea_i H4 (Option.getD (ea_r H4 (Option.getD r1 0) 9) 0) (Int32.toNatClampNeg (vX8_lineFor b0 (r1 : Option Nat) (r2 : Option Nat) h))) : Int32) H4)) then (99999 : Int32) else (if (vX8_worth b0 ((ea_r H4 (Option.getD r1 0) 11) : Option Nat) ((ea_i H4 (Option.getD (ea_r H4 (Option.getD r1 0) 9) 0) (Int32.toNatClampNeg (vX8_lineFor b0 (r1 : Option Nat) (r2 : Option Nat) h))) : Int32) H4) < (0 : Int32) then (0 : Int32) else (vX8_worth b0 ((ea_r H4 (Option.getD r1 0) 11) : Option Nat) ((ea_i H4 (Option.getD (ea_r H4 (Option.getD r1 0) 9) 0) (Int32.toNatClampNeg (vX8_lineFor b0 (r1 : Option Nat) (r2 : Option Nat) h))) : Int32) H4))) : Int32) H14 _ _ E hsH14
      have E := (if_neg c16).symm.trans E
      exact ea_shO E hs
    have E := (if_neg el0).symm.trans E
    by_cases el1 : lbl = 50
    · have E := (if_pos el1).symm.trans E
      obtain ⟨e17, E⟩ := gd_some E
      obtain ⟨f18, E⟩ := gd_some E
      obtain ⟨e19, E⟩ := gd_some E
      obtain ⟨f20, E⟩ := gd_some E
      by_cases c23 : ((ea_i h (Option.getD r2 0) 6) - (ea_i h (Option.getD r2 0) 6) / (1440 : Int32) * (1440 : Int32)) ≤ (ea_i h (Option.getD r1 0) 3)
      · have E := (if_pos c23).symm.trans E
        exact ih 74 (r1 : Option Nat) (r2 : Option Nat) (x4 : Int32) h _ _ E hs
      have E := (if_neg c23).symm.trans E
      obtain ⟨e21, E⟩ := gd_some E
      obtain ⟨f22, E⟩ := gd_some E
      exact ih 74 (r1 : Option Nat) (r2 : Option Nat) ((x4 + (ea_i h (Option.getD r1 0) 2)) : Int32) h _ _ E hs
    have E := (if_neg el1).symm.trans E
    by_cases el2 : lbl = 74
    · have E := (if_pos el2).symm.trans E
      obtain ⟨e24, E⟩ := gd_some E
      obtain ⟨f25, E⟩ := gd_some E
      by_cases c28 : (ea_i h (Option.getD r2 0) 0) = (3 : Int32)
      · have E := (if_pos c28).symm.trans E
        obtain ⟨e26, E⟩ := gd_some E
        obtain ⟨f27, E⟩ := gd_some E
        exact ih 91 (r1 : Option Nat) (r2 : Option Nat) ((x4 + (ea_i h (Option.getD r1 0) 5)) : Int32) h _ _ E hs
      have E := (if_neg c28).symm.trans E
      exact ih 91 (r1 : Option Nat) (r2 : Option Nat) (x4 : Int32) h _ _ E hs
    have E := (if_neg el2).symm.trans E
    by_cases el3 : lbl = 91
    · have E := (if_pos el3).symm.trans E
      obtain ⟨e29, E⟩ := gd_some E
      obtain ⟨f30, E⟩ := gd_some E
      by_cases c33 : (ea_i h (Option.getD r2 0) 0) = (4 : Int32)
      · have E := (if_pos c33).symm.trans E
        obtain ⟨e31, E⟩ := gd_some E
        obtain ⟨f32, E⟩ := gd_some E
        exact ea_shO E hs
      have E := (if_neg c33).symm.trans E
      exact ea_shO E hs
    have E := (if_neg el3).symm.trans E
    cases E
theorem shX8_chargeBy {b0 : Nat} {r1 : Option Nat} {r2 : Option Nat} {h : ea_H} (hs : ShC b0 h) : ShC b0 (wX8_chargeBy b0 r1 r2 h) := by
  unfold wX8_chargeBy
  cases K : qX8_chargeBy b0 r1 r2 h with
  | none => exact hs
  | some x => obtain ⟨x, y⟩ := x; unfold qX8_chargeBy at K; exact zX8_chargeBy _ _ _ _ _ _ _ _ K hs
noncomputable def gX10_bestFrom (b0 : Nat) : Nat → Nat → Int32 → Int32 → Int32 → Int32 → ea_H → Option (Int64 × ea_H)
  | 0, _, _, _, _, _, _ => none
  | f + 1, lbl, x1, x2, x3, x4, h =>
    if lbl = 0 then (gd ((okX10_refresh b0 h)) (ea_let (wX10_refresh b0 h) fun H3 => (gX10_bestFrom b0 f 7 (x1 : Int32) (x2 : Int32) (x3 : Int32) (0 : Int32) H3))) else
    if lbl = 7 then (if (ea_i h (b0 + 13) 1) ≤ x4 then (some ((9223372036854775807 : Int64), h)) else (gd ((okX10_keyAt b0 (x4 : Int32) h)) (if (vX10_isGoing ((vX10_keyAt b0 (x4 : Int32) h) : Int32) h) = (0 : Int32) then (gX10_bestFrom b0 f 7 (x1 : Int32) (x2 : Int32) (x3 : Int32) ((x4 + (1 : Int32)) : Int32) h) else (if (vX10_minuteIn ((vX10_keyAt b0 (x4 : Int32) h) : Int32) h) < x2 then (gX10_bestFrom b0 f 7 (x1 : Int32) (x2 : Int32) (x3 : Int32) ((x4 + (1 : Int32)) : Int32) h) else (gd ((okX10_townIn b0 ((vX10_keyAt b0 (x4 : Int32) h) : Int32) h)) (if (vX10_townIn b0 ((vX10_keyAt b0 (x4 : Int32) h) : Int32) h) = x1 then (gd ((ea_r h (b0 + 13) 4) = some (Option.getD (ea_r h (b0 + 13) 4) 0)) (gd (((Option.getD (ea_r h (b0 + 13) 4) 0) < ea_n h ∧ ea_c h (Option.getD (ea_r h (b0 + 13) 4) 0) = 22)) (gd (vp_in (((12 : Int32) * (vX10_slotIn ((vX10_keyAt b0 (x4 : Int32) h) : Int32) h)) + x3) (ea_l h (Option.getD (ea_r h (b0 + 13) 4) 0))) (some ((ea_j h (Option.getD (ea_r h (b0 + 13) 4) 0) (Int32.toNatClampNeg (((12 : Int32) * (vX10_slotIn ((vX10_keyAt b0 (x4 : Int32) h) : Int32) h)) + x3))), h))))) else (gX10_bestFrom b0 f 7 (x1 : Int32) (x2 : Int32) (x3 : Int32) ((x4 + (1 : Int32)) : Int32) h))))))) else none
theorem tX10_bestFrom {d : Nat} {b0 : Nat} {h0 : ea_H} (hd : 5 ≤ d) : ∀ (f lbl : Nat) (x1 : Int32) (x2 : Int32) (x3 : Int32) (x4 : Int32) (h : ea_H) (r : Int64) (h' : ea_H), gX10_bestFrom b0 f lbl x1 x2 x3 x4 h = some (r, h') → ShC b0 h → (lbl = 0 → ea_W mX10_bestFrom d h0 (some (vJ r)) h' 0 [(0, vR (some (b0 + 13))), (1, vI x1), (2, vI x2), (3, vI x3)] [] h) ∧ (lbl = 7 → ea_W mX10_bestFrom d h0 (some (vJ r)) h' 7 [(0, vR (some (b0 + 13))), (1, vI x1), (2, vI x2), (3, vI x3), (4, vI x4)] [] h) := by
  intro f
  induction f with
  | zero => intro lbl x1 x2 x3 x4 h r h' E; cases E
  | succ f ih =>
    intro lbl x1 x2 x3 x4 h r h' E hs
    unfold gX10_bestFrom at E
    refine ⟨?_, ?_⟩
    · intro el
      subst el
      have E := (if_pos rfl).symm.trans E
      refine ea_aload_n (pc := 0) dX10_bestFrom_0 rfl 0 rfl ?_
      obtain ⟨z1, E⟩ := gd_some E
      refine ea_callV (pc := 1) (d' := d - 1) (As := []) (st := []) dX10_bestFrom_1 kX10_refresh (sX10_refresh (d := d - 1) (by omega) hs z1) (by omega) rfl (Nat.le_of_ble_eq_true rfl) ew_1096 ew_564 ew_565 (ci := 10) rfl (by decide) (hs.1 13 (by decide)).1 (hs.1 13 (by decide)).2.1 ?_
      have hs2 : ShC b0 (wX10_refresh b0 h) := shX10_refresh hs
      obtain ⟨H3, eH3, E⟩ := let_some E
      refine ea_nm eH3 ?_
      have hsH3 : ShC b0 H3 := by rw [eH3]; exact hs2
      refine ea_iconst (pc := 4) dX10_bestFrom_4 (v := 0) rfl ?_
      refine ea_istore (pc := 5) (lv' := [(0, vR (some (b0 + 13))), (1, vI x1), (2, vI x2), (3, vI x3), (4, vI 0)]) dX10_bestFrom_5 (Nat.le_of_ble_eq_true rfl) [1, 2, 3, 4, 0] rfl ?_
      exact ((ih 7 (x1 : Int32) (x2 : Int32) (x3 : Int32) (0 : Int32) H3 _ _ E hsH3).2 rfl)
    intro el
    subst el
    have E := (if_neg (by decide)).symm.trans E
    have E := (if_pos rfl).symm.trans E
    refine ea_iload (pc := 7) dX10_bestFrom_7 4 rfl ?_
    refine ea_aload_n (pc := 9) dX10_bestFrom_9 rfl 0 rfl ?_
    refine ea_getI (pc := 10) dX10_bestFrom_10 ec_10 (k := 1) (Nat.le_of_ble_eq_true rfl) rfl (Or.inl ew_227) (hs.1 13 (by decide)).1 (hs.1 13 (by decide)).2.1 ?_
    refine ea_icmp_ge (pc := 13) (tgt := 73) dX10_bestFrom_13 rfl (fun c15 => ?_) (fun c15 => ?_)
    · have E := (if_pos c15).symm.trans E
      refine ea_ldc2 (pc := 73) dX10_bestFrom_73 ew_615 ?_
      exact ea_lretO (pc := 76) dX10_bestFrom_76 rfl E
    · have E := (if_neg c15).symm.trans E
      refine ea_aload_n (pc := 16) dX10_bestFrom_16 rfl 0 rfl ?_
      refine ea_iload (pc := 17) dX10_bestFrom_17 4 rfl ?_
      obtain ⟨z4, E⟩ := gd_some E
      refine ea_callV (pc := 19) (d' := d - 1) (As := [vI x4]) (st := []) dX10_bestFrom_19 kX10_keyAt (sX10_keyAt (d := d - 1) (by omega) hs z4) (by omega) rfl (Nat.le_of_ble_eq_true rfl) ew_635 ew_636 ew_637 (ci := 10) rfl (by decide) (hs.1 13 (by decide)).1 (hs.1 13 (by decide)).2.1 ?_
      refine ea_istore (pc := 22) (lv' := [(0, vR (some (b0 + 13))), (1, vI x1), (2, vI x2), (3, vI x3), (4, vI x4), (5, vI (vX10_keyAt b0 (x4 : Int32) h))]) dX10_bestFrom_22 (Nat.le_of_ble_eq_true rfl) [1, 2, 3, 4, 5, 0] rfl ?_
      refine ea_iload (pc := 24) dX10_bestFrom_24 5 rfl ?_
      refine ea_callS (pc := 26) (d' := d - 1) (As := [vI (vX10_keyAt b0 (x4 : Int32) h)]) (st := []) dX10_bestFrom_26 kX10_isGoing (sX10_isGoing (d := d - 1) (by omega)) (by omega) rfl (Nat.le_of_ble_eq_true rfl) ew_589 ew_590 ?_
      refine ea_if_eq (pc := 29) (tgt := 67) dX10_bestFrom_29 rfl (fun c14 => ?_) (fun c14 => ?_)
      · have E := (if_pos c14).symm.trans E
        refine ea_iinc (pc := 67) (v := 1) (lv' := [(0, vR (some (b0 + 13))), (1, vI x1), (2, vI x2), (3, vI x3), (4, vI (x4 + (1 : Int32)))]) dX10_bestFrom_67 4 rfl rfl (Nat.le_of_ble_eq_true rfl) [1, 2, 3, 4, 0] rfl ?_
        refine ea_goto (pc := 70) (tgt := 7) dX10_bestFrom_70 rfl ?_
        exact ((ih 7 (x1 : Int32) (x2 : Int32) (x3 : Int32) ((x4 + (1 : Int32)) : Int32) h _ _ E hs).2 rfl)
      · have E := (if_neg c14).symm.trans E
        refine ea_iload (pc := 32) dX10_bestFrom_32 5 rfl ?_
        refine ea_callS (pc := 34) (d' := d - 1) (As := [vI (vX10_keyAt b0 (x4 : Int32) h)]) (st := []) dX10_bestFrom_34 kX10_minuteIn (sX10_minuteIn (d := d - 1) (by omega)) (by omega) rfl (Nat.le_of_ble_eq_true rfl) ew_602 ew_603 ?_
        refine ea_iload_n (pc := 37) dX10_bestFrom_37 rfl 2 rfl ?_
        refine ea_icmp_lt (pc := 38) (tgt := 67) dX10_bestFrom_38 rfl (fun c13 => ?_) (fun c13 => ?_)
        · have E := (if_pos c13).symm.trans E
          refine ea_iinc (pc := 67) (v := 1) (lv' := [(0, vR (some (b0 + 13))), (1, vI x1), (2, vI x2), (3, vI x3), (4, vI (x4 + (1 : Int32)))]) dX10_bestFrom_67 4 rfl rfl (Nat.le_of_ble_eq_true rfl) [1, 2, 3, 4, 0] rfl ?_
          refine ea_goto (pc := 70) (tgt := 7) dX10_bestFrom_70 rfl ?_
          exact ((ih 7 (x1 : Int32) (x2 : Int32) (x3 : Int32) ((x4 + (1 : Int32)) : Int32) h _ _ E hs).2 rfl)
        · have E := (if_neg c13).symm.trans E
          refine ea_aload_n (pc := 41) dX10_bestFrom_41 rfl 0 rfl ?_
          refine ea_iload (pc := 42) dX10_bestFrom_42 5 rfl ?_
          obtain ⟨z7, E⟩ := gd_some E
          refine ea_callV (pc := 44) (d' := d - 1) (As := [vI (vX10_keyAt b0 (x4 : Int32) h)]) (st := []) dX10_bestFrom_44 kX10_townIn (sX10_townIn (d := d - 1) (by omega) hs z7) (by omega) rfl (Nat.le_of_ble_eq_true rfl) ew_592 ew_594 ew_7 (ci := 10) rfl (by decide) (hs.1 13 (by decide)).1 (hs.1 13 (by decide)).2.1 ?_
          refine ea_iload_n (pc := 47) dX10_bestFrom_47 rfl 1 rfl ?_
          refine ea_icmp_ne (pc := 48) (tgt := 67) dX10_bestFrom_48 rfl (fun c12 => ?_) (fun c12 => ?_)
          · have E := (if_neg c12).symm.trans E
            refine ea_iinc (pc := 67) (v := 1) (lv' := [(0, vR (some (b0 + 13))), (1, vI x1), (2, vI x2), (3, vI x3), (4, vI (x4 + (1 : Int32)))]) dX10_bestFrom_67 4 rfl rfl (Nat.le_of_ble_eq_true rfl) [1, 2, 3, 4, 0] rfl ?_
            refine ea_goto (pc := 70) (tgt := 7) dX10_bestFrom_70 rfl ?_
            exact ((ih 7 (x1 : Int32) (x2 : Int32) (x3 : Int32) ((x4 + (1 : Int32)) : Int32) h _ _ E hs).2 rfl)
          · have E := (if_pos c12).symm.trans E
            refine ea_aload_n (pc := 51) dX10_bestFrom_51 rfl 0 rfl ?_
            refine ea_getR (pc := 52) dX10_bestFrom_52 ec_10 (k := 4) (Nat.le_of_ble_eq_true rfl) rfl (Or.inl ew_231) (hs.1 13 (by decide)).1 (hs.1 13 (by decide)).2.1 rfl ?_
            refine ea_bipush (pc := 55) dX10_bestFrom_55 (v := 12) rfl ?_
            refine ea_iload (pc := 57) dX10_bestFrom_57 5 rfl ?_
            refine ea_callS (pc := 59) (d' := d - 1) (As := [vI (vX10_keyAt b0 (x4 : Int32) h)]) (st := [vI 12, vR (ea_r h (b0 + 13) 4)]) dX10_bestFrom_59 kX10_slotIn (sX10_slotIn (d := d - 1) (by omega)) (by omega) rfl (Nat.le_of_ble_eq_true rfl) ew_605 ew_606 ?_
            refine ea_imul (pc := 62) dX10_bestFrom_62 ?_
            refine ea_iload_n (pc := 63) dX10_bestFrom_63 rfl 3 rfl ?_
            refine ea_iadd (pc := 64) dX10_bestFrom_64 ?_
            obtain ⟨e9, E⟩ := gd_some E
            obtain ⟨f10, E⟩ := gd_some E
            obtain ⟨z11, E⟩ := gd_some E
            refine ea_deref1 e9 ?_
            refine ea_lald (pc := 65) dX10_bestFrom_65 f10.1 f10.2 z11 ?_
            exact ea_lretO (pc := 66) dX10_bestFrom_66 rfl E
noncomputable def qX10_bestFrom (b0 : Nat) (x1 : Int32) (x2 : Int32) (x3 : Int32) (h : ea_H) : Option (Int64 × ea_H) := gX10_bestFrom b0 1000000000 0 x1 x2 x3 0 h
def okX10_bestFrom (b0 : Nat) (x1 : Int32) (x2 : Int32) (x3 : Int32) (h : ea_H) : Prop := ∃ x, qX10_bestFrom b0 x1 x2 x3 h = some x
noncomputable def vX10_bestFrom (b0 : Nat) (x1 : Int32) (x2 : Int32) (x3 : Int32) (h : ea_H) : Int64 := ((qX10_bestFrom b0 x1 x2 x3 h).getD (0, h)).1
noncomputable def wX10_bestFrom (b0 : Nat) (x1 : Int32) (x2 : Int32) (x3 : Int32) (h : ea_H) : ea_H := ((qX10_bestFrom b0 x1 x2 x3 h).getD (0, h)).2
theorem sX10_bestFrom {d : Nat} {b0 : Nat} {x1 : Int32} {x2 : Int32} {x3 : Int32} {h : ea_H} (hd : 5 ≤ d) (hs : ShC b0 h) (K : okX10_bestFrom b0 x1 x2 x3 h) : ea_Met mX10_bestFrom d [vR (some (b0 + 13)), vI x1, vI x2, vI x3] h (some (vJ (vX10_bestFrom b0 x1 x2 x3 h))) (wX10_bestFrom b0 x1 x2 x3 h) := by
  obtain ⟨⟨x, y⟩, K⟩ := K
  unfold wX10_bestFrom vX10_bestFrom
  rw [K]
  unfold qX10_bestFrom at K
  exact ea_enter rfl (Nat.le_of_ble_eq_true rfl) ((tX10_bestFrom hd 1000000000 0 x1 x2 x3 0 h x y K hs).1 rfl)
theorem zX10_bestFrom {b0 : Nat} : ∀ (f lbl : Nat) (x1 : Int32) (x2 : Int32) (x3 : Int32) (x4 : Int32) (h : ea_H) (r : Int64) (h' : ea_H), gX10_bestFrom b0 f lbl x1 x2 x3 x4 h = some (r, h') → ShC b0 h → ShC b0 h' := by
  intro f
  induction f with
  | zero => intro lbl x1 x2 x3 x4 h r h' E; cases E
  | succ f ih =>
    intro lbl x1 x2 x3 x4 h r h' E hs
    unfold gX10_bestFrom at E
    by_cases el0 : lbl = 0
    · have E := (if_pos el0).symm.trans E
      obtain ⟨z1, E⟩ := gd_some E
      obtain ⟨H3, eH3, E⟩ := let_some E
      have hsH3 : ShC b0 H3 := by rw [eH3]; exact (shX10_refresh hs)
      exact ih 7 (x1 : Int32) (x2 : Int32) (x3 : Int32) (0 : Int32) H3 _ _ E hsH3
    have E := (if_neg el0).symm.trans E
    by_cases el1 : lbl = 7
    · have E := (if_pos el1).symm.trans E
      by_cases c15 : (ea_i h (b0 + 13) 1) ≤ x4
      · have E := (if_pos c15).symm.trans E
        exact ea_shO E hs
      have E := (if_neg c15).symm.trans E
      obtain ⟨z4, E⟩ := gd_some E
      by_cases c14 : (vX10_isGoing ((vX10_keyAt b0 (x4 : Int32) h) : Int32) h) = (0 : Int32)
      · have E := (if_pos c14).symm.trans E
        exact ih 7 (x1 : Int32) (x2 : Int32) (x3 : Int32) ((x4 + (1 : Int32)) : Int32) h _ _ E hs
      have E := (if_neg c14).symm.trans E
      by_cases c13 : (vX10_minuteIn ((vX10_keyAt b0 (x4 : Int32) h) : Int32) h) < x2
      · have E := (if_pos c13).symm.trans E
        exact ih 7 (x1 : Int32) (x2 : Int32) (x3 : Int32) ((x4 + (1 : Int32)) : Int32) h _ _ E hs
      have E := (if_neg c13).symm.trans E
      obtain ⟨z7, E⟩ := gd_some E
      by_cases c12 : (vX10_townIn b0 ((vX10_keyAt b0 (x4 : Int32) h) : Int32) h) = x1
      · have E := (if_pos c12).symm.trans E
        obtain ⟨e9, E⟩ := gd_some E
        obtain ⟨f10, E⟩ := gd_some E
        obtain ⟨z11, E⟩ := gd_some E
        exact ea_shO E hs
      have E := (if_neg c12).symm.trans E
      exact ih 7 (x1 : Int32) (x2 : Int32) (x3 : Int32) ((x4 + (1 : Int32)) : Int32) h _ _ E hs
    have E := (if_neg el1).symm.trans E
    cases E
theorem shX10_bestFrom {b0 : Nat} {x1 : Int32} {x2 : Int32} {x3 : Int32} {h : ea_H} (hs : ShC b0 h) : ShC b0 (wX10_bestFrom b0 x1 x2 x3 h) := by
  unfold wX10_bestFrom
  cases K : qX10_bestFrom b0 x1 x2 x3 h with
  | none => exact hs
  | some x => obtain ⟨x, y⟩ := x; unfold qX10_bestFrom at K; exact zX10_bestFrom _ _ _ _ _ _ _ _ _ K hs
noncomputable def vX11_way (b0 : Nat) (x1 : Int32) (x2 : Int32) (x3 : Int32) (x4 : Int32) (h : ea_H) : Int32 := (if (vX6_has b0 (x1 : Int32) h) = (0 : Int32) then ((-1) : Int32) else (if (vX6_has b0 (x3 : Int32) h) = (0 : Int32) then ((-1) : Int32) else (if x1 = x3 then ((-1) : Int32) else (if x2 < (ea_i h (b0 + 0) 11) then ((-1) : Int32) else (if x2 ≤ (10079 : Int32) then (if (lg_cmp (vX10_bestFrom b0 (x1 : Int32) (x2 : Int32) (x3 : Int32) h) (9223372036854775807 : Int64)) = (0 : Int32) then ((-1) : Int32) else (if Int32.toInt x4 = 0 then (vX10_minuteOf ((vX10_bestFrom b0 (x1 : Int32) (x2 : Int32) (x3 : Int32) h) : Int64) (wX10_bestFrom b0 (x1 : Int32) (x2 : Int32) (x3 : Int32) h)) else (if Int32.toInt x4 = 1 then (vX10_runsOf ((vX10_bestFrom b0 (x1 : Int32) (x2 : Int32) (x3 : Int32) h) : Int64) (wX10_bestFrom b0 (x1 : Int32) (x2 : Int32) (x3 : Int32) h)) else (if Int32.toInt x4 = 2 then (vX10_trainOf ((vX10_bestFrom b0 (x1 : Int32) (x2 : Int32) (x3 : Int32) h) : Int64) (wX10_bestFrom b0 (x1 : Int32) (x2 : Int32) (x3 : Int32) h)) else (if Int32.toInt x4 = 3 then (vX10_dayOf ((vX10_bestFrom b0 (x1 : Int32) (x2 : Int32) (x3 : Int32) h) : Int64) (wX10_bestFrom b0 (x1 : Int32) (x2 : Int32) (x3 : Int32) h)) else (if Int32.toInt x4 = 4 then (vX10_takenOf ((vX10_bestFrom b0 (x1 : Int32) (x2 : Int32) (x3 : Int32) h) : Int64) (wX10_bestFrom b0 (x1 : Int32) (x2 : Int32) (x3 : Int32) h)) else (if Int32.toInt x4 = 5 then (vX10_leftOf ((vX10_bestFrom b0 (x1 : Int32) (x2 : Int32) (x3 : Int32) h) : Int64) (wX10_bestFrom b0 (x1 : Int32) (x2 : Int32) (x3 : Int32) h)) else ((-1) : Int32)))))))) else ((-1) : Int32))))))
noncomputable def wX11_way (b0 : Nat) (x1 : Int32) (x2 : Int32) (x3 : Int32) (x4 : Int32) (h : ea_H) : ea_H := (if (vX6_has b0 (x1 : Int32) h) = (0 : Int32) then h else (if (vX6_has b0 (x3 : Int32) h) = (0 : Int32) then h else (if x1 = x3 then h else (if x2 < (ea_i h (b0 + 0) 11) then h else (if x2 ≤ (10079 : Int32) then (wX10_bestFrom b0 (x1 : Int32) (x2 : Int32) (x3 : Int32) h) else h)))))
def okX11_way (b0 : Nat) (x1 : Int32) (x2 : Int32) (x3 : Int32) (x4 : Int32) (h : ea_H) : Prop := ((vX6_has b0 (x1 : Int32) h) = (0 : Int32) → True) ∧ (¬ (vX6_has b0 (x1 : Int32) h) = (0 : Int32) → ((vX6_has b0 (x3 : Int32) h) = (0 : Int32) → True) ∧ (¬ (vX6_has b0 (x3 : Int32) h) = (0 : Int32) → (x1 = x3 → True) ∧ (¬ x1 = x3 → (x2 < (ea_i h (b0 + 0) 11) → True) ∧ (¬ x2 < (ea_i h (b0 + 0) 11) → (x2 ≤ (10079 : Int32) → (okX10_bestFrom b0 (x1 : Int32) (x2 : Int32) (x3 : Int32) h)) ∧ (¬ x2 ≤ (10079 : Int32) → True)))))
theorem shX11_way {b0 : Nat} {x1 : Int32} {x2 : Int32} {x3 : Int32} {x4 : Int32} {h : ea_H} (hs : ShC b0 h) : ShC b0 (wX11_way b0 x1 x2 x3 x4 h) := (ShC_it hs (ShC_it hs (ShC_it hs (ShC_it hs (ShC_it (shX10_bestFrom hs) hs)))))
theorem sX11_way {d : Nat} {b0 : Nat} {x1 : Int32} {x2 : Int32} {x3 : Int32} {x4 : Int32} {h : ea_H} (hd : 6 ≤ d) (hs : ShC b0 h) (K : okX11_way b0 x1 x2 x3 x4 h) : ea_Met mX11_way d [vR (some (b0 + 0)), vI x1, vI x2, vI x3, vI x4] h (some (vI (vX11_way b0 x1 x2 x3 x4 h))) (wX11_way b0 x1 x2 x3 x4 h) := by
  obtain ⟨X, EX⟩ : ∃ z, z = vX11_way b0 x1 x2 x3 x4 h := ⟨_, rfl⟩
  rw [← EX]
  unfold vX11_way at EX
  obtain ⟨Y, EY⟩ : ∃ z, z = wX11_way b0 x1 x2 x3 x4 h := ⟨_, rfl⟩
  rw [← EY]
  unfold wX11_way at EY
  unfold okX11_way at K
  refine ea_enter rfl (Nat.le_of_ble_eq_true rfl) ?_
  refine ea_aload_n (pc := 0) dX11_way_0 rfl 0 rfl ?_
  refine ea_getR (pc := 1) dX11_way_1 ec_11 (k := 0) (Nat.le_of_ble_eq_true rfl) rfl (Or.inl ew_437) (hs.1 0 (by decide)).1 (hs.1 0 (by decide)).2.1 (hs.2 0 0 rfl) ?_
  refine ea_iload_n (pc := 4) dX11_way_4 rfl 1 rfl ?_
  refine ea_callV (pc := 5) (d' := d - 1) (As := [vI x1]) (st := []) dX11_way_5 kX6_has (sX6_has (d := d - 1) (by omega) hs) (by omega) rfl (Nat.le_of_ble_eq_true rfl) ew_494 ew_495 ew_496 (ci := 6) rfl (by decide) (hs.1 1 (by decide)).1 (hs.1 1 (by decide)).2.1 ?_
  refine ea_if_eq (pc := 8) (tgt := 42) dX11_way_8 rfl (fun c16 => ?_) (fun c16 => ?_)
  · have EX := EX.trans (if_pos c16)
    have EY := EY.trans (if_pos c16)
    refine ea_iconst (pc := 42) dX11_way_42 (v := (-1)) rfl ?_
    exact ea_iretE (pc := 43) dX11_way_43 rfl rfl EX EY
  · have EX := EX.trans (if_neg c16)
    have EY := EY.trans (if_neg c16)
    have K := K.2 c16
    refine ea_aload_n (pc := 11) dX11_way_11 rfl 0 rfl ?_
    refine ea_getR (pc := 12) dX11_way_12 ec_11 (k := 0) (Nat.le_of_ble_eq_true rfl) rfl (Or.inl ew_437) (hs.1 0 (by decide)).1 (hs.1 0 (by decide)).2.1 (hs.2 0 0 rfl) ?_
    refine ea_iload_n (pc := 15) dX11_way_15 rfl 3 rfl ?_
    refine ea_callV (pc := 16) (d' := d - 1) (As := [vI x3]) (st := []) dX11_way_16 kX6_has (sX6_has (d := d - 1) (by omega) hs) (by omega) rfl (Nat.le_of_ble_eq_true rfl) ew_494 ew_495 ew_496 (ci := 6) rfl (by decide) (hs.1 1 (by decide)).1 (hs.1 1 (by decide)).2.1 ?_
    refine ea_if_eq (pc := 19) (tgt := 42) dX11_way_19 rfl (fun c15 => ?_) (fun c15 => ?_)
    · have EX := EX.trans (if_pos c15)
      have EY := EY.trans (if_pos c15)
      refine ea_iconst (pc := 42) dX11_way_42 (v := (-1)) rfl ?_
      exact ea_iretE (pc := 43) dX11_way_43 rfl rfl EX EY
    · have EX := EX.trans (if_neg c15)
      have EY := EY.trans (if_neg c15)
      have K := K.2 c15
      refine ea_iload_n (pc := 22) dX11_way_22 rfl 1 rfl ?_
      refine ea_iload_n (pc := 23) dX11_way_23 rfl 3 rfl ?_
      refine ea_icmp_eq (pc := 24) (tgt := 42) dX11_way_24 rfl (fun c14 => ?_) (fun c14 => ?_)
      · have EX := EX.trans (if_pos c14)
        have EY := EY.trans (if_pos c14)
        refine ea_iconst (pc := 42) dX11_way_42 (v := (-1)) rfl ?_
        exact ea_iretE (pc := 43) dX11_way_43 rfl rfl EX EY
      · have EX := EX.trans (if_neg c14)
        have EY := EY.trans (if_neg c14)
        have K := K.2 c14
        refine ea_iload_n (pc := 27) dX11_way_27 rfl 2 rfl ?_
        refine ea_aload_n (pc := 28) dX11_way_28 rfl 0 rfl ?_
        refine ea_getI (pc := 29) dX11_way_29 ec_11 (k := 11) (Nat.le_of_ble_eq_true rfl) rfl (Or.inl ew_448) (hs.1 0 (by decide)).1 (hs.1 0 (by decide)).2.1 ?_
        refine ea_icmp_lt (pc := 32) (tgt := 42) dX11_way_32 rfl (fun c13 => ?_) (fun c13 => ?_)
        · have EX := EX.trans (if_pos c13)
          have EY := EY.trans (if_pos c13)
          refine ea_iconst (pc := 42) dX11_way_42 (v := (-1)) rfl ?_
          exact ea_iretE (pc := 43) dX11_way_43 rfl rfl EX EY
        · have EX := EX.trans (if_neg c13)
          have EY := EY.trans (if_neg c13)
          have K := K.2 c13
          refine ea_iload_n (pc := 35) dX11_way_35 rfl 2 rfl ?_
          refine ea_sipush (pc := 36) dX11_way_36 (v := 10079) rfl ?_
          refine ea_icmp_le (pc := 39) (tgt := 44) dX11_way_39 rfl (fun c12 => ?_) (fun c12 => ?_)
          · have EX := EX.trans (if_pos c12)
            have EY := EY.trans (if_pos c12)
            have K := K.1 c12
            refine ea_aload_n (pc := 44) dX11_way_44 rfl 0 rfl ?_
            refine ea_getR (pc := 45) dX11_way_45 ec_11 (k := 2) (Nat.le_of_ble_eq_true rfl) rfl (Or.inl ew_439) (hs.1 0 (by decide)).1 (hs.1 0 (by decide)).2.1 (hs.2 0 2 rfl) ?_
            refine ea_iload_n (pc := 48) dX11_way_48 rfl 1 rfl ?_
            refine ea_iload_n (pc := 49) dX11_way_49 rfl 2 rfl ?_
            refine ea_iload_n (pc := 50) dX11_way_50 rfl 3 rfl ?_
            have z3 := K
            refine ea_callV (pc := 51) (d' := d - 1) (As := [vI x1, vI x2, vI x3]) (st := []) dX11_way_51 kX10_bestFrom (sX10_bestFrom (d := d - 1) (by omega) hs z3) (by omega) rfl (Nat.le_of_ble_eq_true rfl) ew_1092 ew_1093 ew_1094 (ci := 10) rfl (by decide) (hs.1 13 (by decide)).1 (hs.1 13 (by decide)).2.1 ?_
            have hs4 : ShC b0 (wX10_bestFrom b0 (x1 : Int32) (x2 : Int32) (x3 : Int32) h) := shX10_bestFrom hs
            refine ea_lstore (pc := 54) (lv' := [(4, vI x4), (5, vJ (vX10_bestFrom b0 (x1 : Int32) (x2 : Int32) (x3 : Int32) h))]) dX11_way_54 (Nat.le_of_ble_eq_true rfl) [5, 0] rfl ?_
            refine ea_lload (pc := 56) dX11_way_56 1 rfl ?_
            refine ea_ldc2 (pc := 58) dX11_way_58 ew_1097 ?_
            refine ea_lcmp (pc := 61) dX11_way_61 ?_
            refine ea_if_ne (pc := 62) (tgt := 67) dX11_way_62 rfl (fun c11 => ?_) (fun c11 => ?_)
            · have EX := EX.trans (if_neg c11)
              refine ea_iload (pc := 67) dX11_way_67 0 rfl ?_
              by_cases qc69_0 : Int32.toInt x4 = 0
              · have EX := EX.trans (if_pos qc69_0)
                refine ea_tswIn (pc := 69) (tgt := 108) dX11_way_69 (by rw [qc69_0]; decide) (by rw [qc69_0]; decide) (by rw [qc69_0]; rfl) rfl ?_
                refine ea_lload (pc := 108) dX11_way_108 1 rfl ?_
                refine ea_callS (pc := 110) (d' := d - 1) (As := [vJ (vX10_bestFrom b0 (x1 : Int32) (x2 : Int32) (x3 : Int32) h)]) (st := []) dX11_way_110 kX10_minuteOf (sX10_minuteOf (d := d - 1) (by omega)) (by omega) rfl (Nat.le_of_ble_eq_true rfl) ew_1098 ew_1099 ?_
                exact ea_iretE (pc := 113) dX11_way_113 rfl rfl EX EY
              have EX := EX.trans (if_neg qc69_0)
              by_cases qc69_1 : Int32.toInt x4 = 1
              · have EX := EX.trans (if_pos qc69_1)
                refine ea_tswIn (pc := 69) (tgt := 114) dX11_way_69 (by rw [qc69_1]; decide) (by rw [qc69_1]; decide) (by rw [qc69_1]; rfl) rfl ?_
                refine ea_lload (pc := 114) dX11_way_114 1 rfl ?_
                refine ea_callS (pc := 116) (d' := d - 1) (As := [vJ (vX10_bestFrom b0 (x1 : Int32) (x2 : Int32) (x3 : Int32) h)]) (st := []) dX11_way_116 kX10_runsOf (sX10_runsOf (d := d - 1) (by omega)) (by omega) rfl (Nat.le_of_ble_eq_true rfl) ew_1101 ew_1102 ?_
                exact ea_iretE (pc := 119) dX11_way_119 rfl rfl EX EY
              have EX := EX.trans (if_neg qc69_1)
              by_cases qc69_2 : Int32.toInt x4 = 2
              · have EX := EX.trans (if_pos qc69_2)
                refine ea_tswIn (pc := 69) (tgt := 120) dX11_way_69 (by rw [qc69_2]; decide) (by rw [qc69_2]; decide) (by rw [qc69_2]; rfl) rfl ?_
                refine ea_lload (pc := 120) dX11_way_120 1 rfl ?_
                refine ea_callS (pc := 122) (d' := d - 1) (As := [vJ (vX10_bestFrom b0 (x1 : Int32) (x2 : Int32) (x3 : Int32) h)]) (st := []) dX11_way_122 kX10_trainOf (sX10_trainOf (d := d - 1) (by omega)) (by omega) rfl (Nat.le_of_ble_eq_true rfl) ew_1104 ew_681 ?_
                exact ea_iretE (pc := 125) dX11_way_125 rfl rfl EX EY
              have EX := EX.trans (if_neg qc69_2)
              by_cases qc69_3 : Int32.toInt x4 = 3
              · have EX := EX.trans (if_pos qc69_3)
                refine ea_tswIn (pc := 69) (tgt := 126) dX11_way_69 (by rw [qc69_3]; decide) (by rw [qc69_3]; decide) (by rw [qc69_3]; rfl) rfl ?_
                refine ea_lload (pc := 126) dX11_way_126 1 rfl ?_
                refine ea_callS (pc := 128) (d' := d - 1) (As := [vJ (vX10_bestFrom b0 (x1 : Int32) (x2 : Int32) (x3 : Int32) h)]) (st := []) dX11_way_128 kX10_dayOf (sX10_dayOf (d := d - 1) (by omega)) (by omega) rfl (Nat.le_of_ble_eq_true rfl) ew_1105 ew_684 ?_
                exact ea_iretE (pc := 131) dX11_way_131 rfl rfl EX EY
              have EX := EX.trans (if_neg qc69_3)
              by_cases qc69_4 : Int32.toInt x4 = 4
              · have EX := EX.trans (if_pos qc69_4)
                refine ea_tswIn (pc := 69) (tgt := 132) dX11_way_69 (by rw [qc69_4]; decide) (by rw [qc69_4]; decide) (by rw [qc69_4]; rfl) rfl ?_
                refine ea_lload (pc := 132) dX11_way_132 1 rfl ?_
                refine ea_callS (pc := 134) (d' := d - 1) (As := [vJ (vX10_bestFrom b0 (x1 : Int32) (x2 : Int32) (x3 : Int32) h)]) (st := []) dX11_way_134 kX10_takenOf (sX10_takenOf (d := d - 1) (by omega)) (by omega) rfl (Nat.le_of_ble_eq_true rfl) ew_1106 ew_687 ?_
                exact ea_iretE (pc := 137) dX11_way_137 rfl rfl EX EY
              have EX := EX.trans (if_neg qc69_4)
              by_cases qc69_5 : Int32.toInt x4 = 5
              · have EX := EX.trans (if_pos qc69_5)
                refine ea_tswIn (pc := 69) (tgt := 138) dX11_way_69 (by rw [qc69_5]; decide) (by rw [qc69_5]; decide) (by rw [qc69_5]; rfl) rfl ?_
                refine ea_lload (pc := 138) dX11_way_138 1 rfl ?_
                refine ea_callS (pc := 140) (d' := d - 1) (As := [vJ (vX10_bestFrom b0 (x1 : Int32) (x2 : Int32) (x3 : Int32) h)]) (st := []) dX11_way_140 kX10_leftOf (sX10_leftOf (d := d - 1) (by omega)) (by omega) rfl (Nat.le_of_ble_eq_true rfl) ew_1107 ew_690 ?_
                exact ea_iretE (pc := 143) dX11_way_143 rfl rfl EX EY
              have EX := EX.trans (if_neg qc69_5)
              refine ea_tswOut (pc := 69) (tgt := 144) dX11_way_69 (ec_sw_0_5 qc69_0 qc69_1 qc69_2 qc69_3 qc69_4 qc69_5) rfl ?_
              refine ea_iconst (pc := 144) dX11_way_144 (v := (-1)) rfl ?_
              exact ea_iretE (pc := 145) dX11_way_145 rfl rfl EX EY
            · have EX := EX.trans (if_pos c11)
              refine ea_iconst (pc := 65) dX11_way_65 (v := (-1)) rfl ?_
              exact ea_iretE (pc := 66) dX11_way_66 rfl rfl EX EY
          · have EX := EX.trans (if_neg c12)
            have EY := EY.trans (if_neg c12)
            refine ea_iconst (pc := 42) dX11_way_42 (v := (-1)) rfl ?_
            exact ea_iretE (pc := 43) dX11_way_43 rfl rfl EX EY
noncomputable def vX11_found (b0 : Nat) (x1 : Int32) (x2 : Int32) (h : ea_H) : Int32 := (if (vX11_letterOf b0 (x1 : Int32) h) = none then (0 : Int32) else (if (ea_i h (b0 + 33) (Int32.toNatClampNeg x1)) = (3 : Int32) then (if (vX4_placeOf b0 (Option.getD (vX11_letterOf b0 (x1 : Int32) h) 0) (x2 : Int32) h) = ((-1) : Int32) then (0 : Int32) else (1 : Int32)) else (0 : Int32)))
noncomputable def wX11_found (b0 : Nat) (x1 : Int32) (x2 : Int32) (h : ea_H) : ea_H := (if (vX11_letterOf b0 (x1 : Int32) h) = none then h else (if (ea_i h (b0 + 33) (Int32.toNatClampNeg x1)) = (3 : Int32) then (if (vX4_placeOf b0 (Option.getD (vX11_letterOf b0 (x1 : Int32) h) 0) (x2 : Int32) h) = ((-1) : Int32) then (wX4_placeOf b0 (Option.getD (vX11_letterOf b0 (x1 : Int32) h) 0) (x2 : Int32) h) else (ea_wi (wX1_move_at32 b0 (x1 : Int32) ((ea_i (wX4_placeOf b0 (Option.getD (vX11_letterOf b0 (x1 : Int32) h) 0) (x2 : Int32) h) (b0 + 0) 11) : Int32) (5 : Int32) (x2 : Int32) (wX4_placeOf b0 (Option.getD (vX11_letterOf b0 (x1 : Int32) h) 0) (x2 : Int32) h)) (b0 + 0) 12 0)) else h))
def okX11_found (b0 : Nat) (x1 : Int32) (x2 : Int32) (h : ea_H) : Prop := (okX11_letterOf b0 (x1 : Int32) h) ∧ (((vX11_letterOf b0 (x1 : Int32) h) = none → True) ∧ (¬ (vX11_letterOf b0 (x1 : Int32) h) = none → vp_in x1 120 ∧ (((ea_i h (b0 + 33) (Int32.toNatClampNeg x1)) = (3 : Int32) → (vX11_letterOf b0 (x1 : Int32) h) = some (Option.getD (vX11_letterOf b0 (x1 : Int32) h) 0) ∧ (((Option.getD (vX11_letterOf b0 (x1 : Int32) h) 0) < ea_n h ∧ ea_c h (Option.getD (vX11_letterOf b0 (x1 : Int32) h) 0) = 4) ∧ ((okX4_placeOf b0 (Option.getD (vX11_letterOf b0 (x1 : Int32) h) 0) (x2 : Int32) h) ∧ (((vX4_placeOf b0 (Option.getD (vX11_letterOf b0 (x1 : Int32) h) 0) (x2 : Int32) h) = ((-1) : Int32) → True) ∧ (¬ (vX4_placeOf b0 (Option.getD (vX11_letterOf b0 (x1 : Int32) h) 0) (x2 : Int32) h) = ((-1) : Int32) → (okX1_move_at32 b0 (x1 : Int32) ((ea_i (wX4_placeOf b0 (Option.getD (vX11_letterOf b0 (x1 : Int32) h) 0) (x2 : Int32) h) (b0 + 0) 11) : Int32) (5 : Int32) (x2 : Int32) (wX4_placeOf b0 (Option.getD (vX11_letterOf b0 (x1 : Int32) h) 0) (x2 : Int32) h))))))) ∧ (¬ (ea_i h (b0 + 33) (Int32.toNatClampNeg x1)) = (3 : Int32) → True))))
theorem bo_vX11_found (b0 : Nat) (x1 : Int32) (x2 : Int32) (h : ea_H) : vX11_found b0 x1 x2 h = 0 ∨ vX11_found b0 x1 x2 h = 1 := (ea_itB (Or.inl rfl) (ea_itB (ea_itB (Or.inl rfl) (Or.inr rfl)) (Or.inl rfl)))
theorem shX11_found {b0 : Nat} {x1 : Int32} {x2 : Int32} {h : ea_H} (hs : ShC b0 h) : ShC b0 (wX11_found b0 x1 x2 h) := (ShC_it hs (ShC_it (ShC_it (shX4_placeOf hs) (ShC_wi (shX1_move_at32 (shX4_placeOf hs)))) hs))
theorem sX11_found {d : Nat} {b0 : Nat} {x1 : Int32} {x2 : Int32} {h : ea_H} (hd : 5 ≤ d) (hs : ShC b0 h) (K : okX11_found b0 x1 x2 h) : ea_Met mX11_found d [vR (some (b0 + 0)), vI x1, vI x2] h (some (vI (vX11_found b0 x1 x2 h))) (wX11_found b0 x1 x2 h) := by
  obtain ⟨X, EX⟩ : ∃ z, z = vX11_found b0 x1 x2 h := ⟨_, rfl⟩
  rw [← EX]
  unfold vX11_found at EX
  obtain ⟨Y, EY⟩ : ∃ z, z = wX11_found b0 x1 x2 h := ⟨_, rfl⟩
  rw [← EY]
  unfold wX11_found at EY
  unfold okX11_found at K
  refine ea_enter rfl (Nat.le_of_ble_eq_true rfl) ?_
  refine ea_aload_n (pc := 0) dX11_found_0 rfl 0 rfl ?_
  refine ea_iload_n (pc := 1) dX11_found_1 rfl 1 rfl ?_
  obtain ⟨z1, K⟩ := K
  refine ea_callV (pc := 2) (d' := d - 1) (As := [vI x1]) (st := []) dX11_found_2 kX11_letterOf (sX11_letterOf (d := d - 1) (by omega) hs z1) (by omega) rfl (Nat.le_of_ble_eq_true rfl) ew_1076 ew_1078 ew_37 (ci := 11) rfl (by decide) (hs.1 0 (by decide)).1 (hs.1 0 (by decide)).2.1 ?_
  refine ea_astore_n (pc := 5) (lv' := [(0, vR (some (b0 + 0))), (1, vI x1), (2, vI x2), (3, vR (vX11_letterOf b0 (x1 : Int32) h))]) dX11_found_5 rfl (Nat.le_of_ble_eq_true rfl) [1, 2, 3, 0] rfl ?_
  refine ea_aload_n (pc := 6) dX11_found_6 rfl 3 rfl ?_
  refine ea_ifnull (pc := 7) (tgt := 32) dX11_found_7 rfl (fun c12 => ?_) (fun a13 c12 => ?_)
  · have EX := EX.trans (if_pos c12)
    have EY := EY.trans (if_pos c12)
    refine ea_iconst (pc := 32) dX11_found_32 (v := 0) rfl ?_
    exact ea_iretE (pc := 33) dX11_found_33 rfl (ea_bn (Or.inl rfl)) EX EY
  · have c12n : ¬ (vX11_letterOf b0 (x1 : Int32) h) = none := by rw [c12]; exact fun q => nomatch q
    have EX := EX.trans (if_neg c12n)
    have EY := EY.trans (if_neg c12n)
    have K := K.2 c12n
    refine ea_aload_n (pc := 10) dX11_found_10 rfl 0 rfl ?_
    refine ea_getR (pc := 11) dX11_found_11 ec_11 (k := 6) (Nat.le_of_ble_eq_true rfl) rfl (Or.inl ew_443) (hs.1 0 (by decide)).1 (hs.1 0 (by decide)).2.1 (hs.2 0 6 rfl) ?_
    refine ea_getR (pc := 14) dX11_found_14 ec_1 (k := 1) (Nat.le_of_ble_eq_true rfl) rfl (Or.inl ew_362) (hs.1 32 (by decide)).1 (hs.1 32 (by decide)).2.1 (hs.2 32 1 rfl) ?_
    refine ea_iload_n (pc := 17) dX11_found_17 rfl 1 rfl ?_
    obtain ⟨z2, K⟩ := K
    refine ea_iald (pc := 18) dX11_found_18 (hs.1 33 (by decide)).1 (hs.1 33 (by decide)).2.1 (ea_vpl (hs.1 33 (by decide)).2.2 z2) ?_
    refine ea_iconst (pc := 19) dX11_found_19 (v := 3) rfl ?_
    refine ea_icmp_ne (pc := 20) (tgt := 32) dX11_found_20 rfl (fun c11 => ?_) (fun c11 => ?_)
    · have EX := EX.trans (if_neg c11)
      have EY := EY.trans (if_neg c11)
      refine ea_iconst (pc := 32) dX11_found_32 (v := 0) rfl ?_
      exact ea_iretE (pc := 33) dX11_found_33 rfl (ea_bn (Or.inl rfl)) EX EY
    · have EX := EX.trans (if_pos c11)
      have EY := EY.trans (if_pos c11)
      have K := K.1 c11
      refine ea_aload_n (pc := 23) dX11_found_23 rfl 3 rfl ?_
      refine ea_iload_n (pc := 24) dX11_found_24 rfl 2 rfl ?_
      obtain ⟨e3, f4, z5, K⟩ := K
      refine ea_deref1 e3 ?_
      refine ea_callV (pc := 25) (d' := d - 1) (As := [vI x2]) (st := []) dX11_found_25 kX4_placeOf (sX4_placeOf (d := d - 1) (by omega) hs z5) (by omega) rfl (Nat.le_of_ble_eq_true rfl) ew_1223 ew_1195 ew_1196 (ci := 4) rfl (by decide) f4.1 f4.2 ?_
      have hs6 : ShC b0 (wX4_placeOf b0 (Option.getD (vX11_letterOf b0 (x1 : Int32) h) 0) (x2 : Int32) h) := shX4_placeOf hs
      refine ea_iconst (pc := 28) dX11_found_28 (v := (-1)) rfl ?_
      refine ea_icmp_ne (pc := 29) (tgt := 34) dX11_found_29 rfl (fun c10 => ?_) (fun c10 => ?_)
      · have EX := EX.trans (if_neg c10)
        have EY := EY.trans (if_neg c10)
        have K := K.2 c10
        refine ea_aload_n (pc := 34) dX11_found_34 rfl 0 rfl ?_
        refine ea_getR (pc := 35) dX11_found_35 ec_11 (k := 6) (Nat.le_of_ble_eq_true rfl) rfl (Or.inl ew_443) (hs6.1 0 (by decide)).1 (hs6.1 0 (by decide)).2.1 (hs6.2 0 6 rfl) ?_
        refine ea_iload_n (pc := 38) dX11_found_38 rfl 1 rfl ?_
        refine ea_aload_n (pc := 39) dX11_found_39 rfl 0 rfl ?_
        refine ea_getI (pc := 40) dX11_found_40 ec_11 (k := 11) (Nat.le_of_ble_eq_true rfl) rfl (Or.inl ew_448) (hs6.1 0 (by decide)).1 (hs6.1 0 (by decide)).2.1 ?_
        refine ea_iconst (pc := 43) dX11_found_43 (v := 5) rfl ?_
        refine ea_iload_n (pc := 44) dX11_found_44 rfl 2 rfl ?_
        have z7 := K
        refine ea_callV (pc := 45) (d' := d - 1) (As := [vI x1, vI (ea_i (wX4_placeOf b0 (Option.getD (vX11_letterOf b0 (x1 : Int32) h) 0) (x2 : Int32) h) (b0 + 0) 11), vI 5, vI x2]) (st := []) dX11_found_45 kX1_move (sX1_move_at32 (d := d - 1) (by omega) hs6 z7) (by omega) rfl (Nat.le_of_ble_eq_true rfl) ew_1224 ew_646 ew_647 (ci := 1) rfl (by decide) (hs6.1 32 (by decide)).1 (hs6.1 32 (by decide)).2.1 ?_
        have hs8 : ShC b0 (wX1_move_at32 b0 (x1 : Int32) ((ea_i (wX4_placeOf b0 (Option.getD (vX11_letterOf b0 (x1 : Int32) h) 0) (x2 : Int32) h) (b0 + 0) 11) : Int32) (5 : Int32) (x2 : Int32) (wX4_placeOf b0 (Option.getD (vX11_letterOf b0 (x1 : Int32) h) 0) (x2 : Int32) h)) := shX1_move_at32 hs6
        refine ea_aload_n (pc := 48) dX11_found_48 rfl 0 rfl ?_
        refine ea_iconst (pc := 49) dX11_found_49 (v := 0) rfl ?_
        refine ea_putI (pc := 50) dX11_found_50 ec_11 (k := 12) (Nat.le_of_ble_eq_true rfl) rfl (Or.inl ⟨rfl, Or.inl ew_449⟩) (ea_bn (Or.inl rfl)) (ea_bf (Or.inl rfl)) (hs8.1 0 (by decide)).1 (hs8.1 0 (by decide)).2.1 ?_
        have hs9 : ShC b0 (ea_wi (wX1_move_at32 b0 (x1 : Int32) ((ea_i (wX4_placeOf b0 (Option.getD (vX11_letterOf b0 (x1 : Int32) h) 0) (x2 : Int32) h) (b0 + 0) 11) : Int32) (5 : Int32) (x2 : Int32) (wX4_placeOf b0 (Option.getD (vX11_letterOf b0 (x1 : Int32) h) 0) (x2 : Int32) h)) (b0 + 0) 12 0) := ShC_wi hs8
        refine ea_iconst (pc := 53) dX11_found_53 (v := 1) rfl ?_
        exact ea_iretE (pc := 54) dX11_found_54 rfl (ea_bn (Or.inr rfl)) EX EY
      · have EX := EX.trans (if_pos c10)
        have EY := EY.trans (if_pos c10)
        refine ea_iconst (pc := 32) dX11_found_32 (v := 0) rfl ?_
        exact ea_iretE (pc := 33) dX11_found_33 rfl (ea_bn (Or.inl rfl)) EX EY
noncomputable def gX11_rob (b0 : Nat) : Nat → Nat → Option Nat → Int32 → Int32 → Int32 → Int32 → ea_H → Option (Int32 × ea_H)
  | 0, _, _, _, _, _, _, _ => none
  | f + 1, lbl, r4, x1, x2, x3, x5, h =>
    if lbl = 0 then (if (vX9_hasRun b0 (x1 : Int32) (x2 : Int32) h) = (0 : Int32) then (some (((-1) : Int32), h)) else (if (20 : Int32) ≤ (ea_i h (b0 + 0) 10) then (some (((-1) : Int32), h)) else (gd ((okX11_isUnderWay b0 (x1 : Int32) (x2 : Int32) h)) (ea_let (wX11_isUnderWay b0 (x1 : Int32) (x2 : Int32) h) fun H4 => (if (vX11_isUnderWay b0 (x1 : Int32) (x2 : Int32) h) = (0 : Int32) then (some (((-1) : Int32), H4)) else (ea_let (ea_new H4 7 0 5) fun H6 => (gd ((okX1_aboardOf_at32 b0 ((((10 : Int32) * x2) + x1) : Int32) (1 : Int32) H6)) (ea_let (wX1_aboardOf_at32 b0 ((((10 : Int32) * x2) + x1) : Int32) (1 : Int32) H6) fun H9 => (gd ((okX7_init b0 (ea_n H4) ((((10 : Int32) * x2) + x1) : Int32) ((ea_i H6 (b0 + 0) 11) : Int32) ((vX1_aboardOf_at32 b0 ((((10 : Int32) * x2) + x1) : Int32) (1 : Int32) H6) : Int32) H9)) (ea_let (wX7_init b0 (ea_n H4) ((((10 : Int32) * x2) + x1) : Int32) ((ea_i H6 (b0 + 0) 11) : Int32) ((vX1_aboardOf_at32 b0 ((((10 : Int32) * x2) + x1) : Int32) (1 : Int32) H6) : Int32) H9) fun H12 => (gX11_rob b0 f 65 ((some (ea_n H4)) : Option Nat) 0 0 ((((10 : Int32) * x2) + x1) : Int32) (0 : Int32) H12))))))))))) else
    if lbl = 65 then (if (ea_i h (b0 + 32) 0) ≤ x5 then (gd (vp_in (ea_i h (b0 + 0) 10) 20) (gd (r4 = some (Option.getD r4 0)) (gd (((Option.getD r4 0) < ea_n h ∧ ea_c h (Option.getD r4 0) = 7)) (ea_let (ea_wr h (b0 + 53) (Int32.toNatClampNeg (ea_i h (b0 + 0) 10)) (some (Option.getD r4 0))) fun H20 => (ea_let (ea_wi H20 (b0 + 0) 10 ((ea_i H20 (b0 + 0) 10) + (1 : Int32))) fun H22 => (ea_let (ea_wi H22 (b0 + 0) 12 0) fun H24 => (some (((ea_i H24 (b0 + 0) 10) - (1 : Int32)), H24)))))))) else (gd ((okX1_isAboard_at32 b0 (x5 : Int32) (x3 : Int32) h)) (if (vX1_isAboard_at32 b0 (x5 : Int32) (x3 : Int32) h) = (0 : Int32) then (gX11_rob b0 f 65 (r4 : Option Nat) 0 0 (x3 : Int32) ((x5 + (1 : Int32)) : Int32) h) else (gd (vp_in x5 120) (if (ea_i h (b0 + 37) (Int32.toNatClampNeg x5)) = (0 : Int32) then (gX11_rob b0 f 65 (r4 : Option Nat) 0 0 (x3 : Int32) ((x5 + (1 : Int32)) : Int32) h) else (gd (vp_in x5 120) (gd ((ea_r h (b0 + 31) (Int32.toNatClampNeg x5)) = some (Option.getD (ea_r h (b0 + 31) (Int32.toNatClampNeg x5)) 0)) (gd (((Option.getD (ea_r h (b0 + 31) (Int32.toNatClampNeg x5)) 0) < ea_n h ∧ ea_c h (Option.getD (ea_r h (b0 + 31) (Int32.toNatClampNeg x5)) 0) = 4)) (gd ((okX4_owed b0 (Option.getD (ea_r h (b0 + 31) (Int32.toNatClampNeg x5)) 0) h)) (gd (r4 = some (Option.getD r4 0)) (gd (((Option.getD r4 0) < ea_n h ∧ ea_c h (Option.getD r4 0) = 7)) (gd ((okX7_take b0 (Option.getD r4 0) (x5 : Int32) ((vX4_owed b0 (Option.getD (ea_r h (b0 + 31) (Int32.toNatClampNeg x5)) 0) h) : Int32) h)) (ea_let (wX7_take b0 (Option.getD r4 0) (x5 : Int32) ((vX4_owed b0 (Option.getD (ea_r h (b0 + 31) (Int32.toNatClampNeg x5)) 0) h) : Int32) h) fun H35 => (gd ((okX1_move_at32 b0 (x5 : Int32) ((ea_i H35 (b0 + 0) 11) : Int32) (4 : Int32) (x3 : Int32) H35)) (ea_let (wX1_move_at32 b0 (x5 : Int32) ((ea_i H35 (b0 + 0) 11) : Int32) (4 : Int32) (x3 : Int32) H35) fun H38 => (gX11_rob b0 f 65 (r4 : Option Nat) 0 0 (x3 : Int32) ((x5 + (1 : Int32)) : Int32) H38)))))))))))))))) else none
theorem tX11_rob {d : Nat} {b0 : Nat} {h0 : ea_H} (hd : 5 ≤ d) : ∀ (f lbl : Nat) (r4 : Option Nat) (x1 : Int32) (x2 : Int32) (x3 : Int32) (x5 : Int32) (h : ea_H) (r : Int32) (h' : ea_H), gX11_rob b0 f lbl r4 x1 x2 x3 x5 h = some (r, h') → ShC b0 h → (lbl = 0 → ea_W mX11_rob d h0 (some (vI r)) h' 0 [(0, vR (some (b0 + 0))), (1, vI x1), (2, vI x2)] [] h) ∧ (lbl = 65 → ea_W mX11_rob d h0 (some (vI r)) h' 65 [(0, vR (some (b0 + 0))), (3, vI x3), (4, vR r4), (5, vI x5)] [] h) := by
  intro f
  induction f with
  | zero => intro lbl r4 x1 x2 x3 x5 h r h' E; cases E
  | succ f ih =>
    intro lbl r4 x1 x2 x3 x5 h r h' E hs
    unfold gX11_rob at E
    refine ⟨?_, ?_⟩
    · intro el
      subst el
      have E := (if_pos rfl).symm.trans E
      refine ea_aload_n (pc := 0) dX11_rob_0 rfl 0 rfl ?_
      refine ea_getR (pc := 1) dX11_rob_1 ec_11 (k := 1) (Nat.le_of_ble_eq_true rfl) rfl (Or.inl ew_438) (hs.1 0 (by decide)).1 (hs.1 0 (by decide)).2.1 (hs.2 0 1 rfl) ?_
      refine ea_iload_n (pc := 4) dX11_rob_4 rfl 1 rfl ?_
      refine ea_iload_n (pc := 5) dX11_rob_5 rfl 2 rfl ?_
      refine ea_callV (pc := 6) (d' := d - 1) (As := [vI x1, vI x2]) (st := []) dX11_rob_6 kX9_hasRun (sX9_hasRun (d := d - 1) (by omega) hs) (by omega) rfl (Nat.le_of_ble_eq_true rfl) ew_542 ew_543 ew_544 (ci := 9) rfl (by decide) (hs.1 5 (by decide)).1 (hs.1 5 (by decide)).2.1 ?_
      refine ea_if_eq (pc := 9) (tgt := 30) dX11_rob_9 rfl (fun c15 => ?_) (fun c15 => ?_)
      · have E := (if_pos c15).symm.trans E
        refine ea_iconst (pc := 30) dX11_rob_30 (v := (-1)) rfl ?_
        exact ea_iretO (pc := 31) dX11_rob_31 rfl rfl E
      · have E := (if_neg c15).symm.trans E
        refine ea_aload_n (pc := 12) dX11_rob_12 rfl 0 rfl ?_
        refine ea_getI (pc := 13) dX11_rob_13 ec_11 (k := 10) (Nat.le_of_ble_eq_true rfl) rfl (Or.inl ew_447) (hs.1 0 (by decide)).1 (hs.1 0 (by decide)).2.1 ?_
        refine ea_bipush (pc := 16) dX11_rob_16 (v := 20) rfl ?_
        refine ea_icmp_ge (pc := 18) (tgt := 30) dX11_rob_18 rfl (fun c14 => ?_) (fun c14 => ?_)
        · have E := (if_pos c14).symm.trans E
          refine ea_iconst (pc := 30) dX11_rob_30 (v := (-1)) rfl ?_
          exact ea_iretO (pc := 31) dX11_rob_31 rfl rfl E
        · have E := (if_neg c14).symm.trans E
          refine ea_aload_n (pc := 21) dX11_rob_21 rfl 0 rfl ?_
          refine ea_iload_n (pc := 22) dX11_rob_22 rfl 1 rfl ?_
          refine ea_iload_n (pc := 23) dX11_rob_23 rfl 2 rfl ?_
          obtain ⟨z2, E⟩ := gd_some E
          refine ea_callV (pc := 24) (d' := d - 1) (As := [vI x1, vI x2]) (st := []) dX11_rob_24 kX11_isUnderWay (sX11_isUnderWay (d := d - 1) (by omega) hs z2) (by omega) rfl (Nat.le_of_ble_eq_true rfl) ew_1229 ew_1231 ew_43 (ci := 11) rfl (by decide) (hs.1 0 (by decide)).1 (hs.1 0 (by decide)).2.1 ?_
          have hs3 : ShC b0 (wX11_isUnderWay b0 (x1 : Int32) (x2 : Int32) h) := shX11_isUnderWay hs
          obtain ⟨H4, eH4, E⟩ := let_some E
          refine ea_nm eH4 ?_
          have hsH4 : ShC b0 H4 := by rw [eH4]; exact hs3
          refine ea_if_ne (pc := 27) (tgt := 32) dX11_rob_27 rfl (fun c13 => ?_) (fun c13 => ?_)
          · have E := (if_neg c13).symm.trans E
            refine ea_bipush (pc := 32) dX11_rob_32 (v := 10) rfl ?_
            refine ea_iload_n (pc := 34) dX11_rob_34 rfl 2 rfl ?_
            refine ea_imul (pc := 35) dX11_rob_35 ?_
            refine ea_iload_n (pc := 36) dX11_rob_36 rfl 1 rfl ?_
            refine ea_iadd (pc := 37) dX11_rob_37 ?_
            refine ea_istore_n (pc := 38) (lv' := [(0, vR (some (b0 + 0))), (3, vI (((10 : Int32) * x2) + x1))]) dX11_rob_38 rfl (Nat.le_of_ble_eq_true rfl) [1, 0] rfl ?_
            refine ea_newO (pc := 39) dX11_rob_39 ec_7 ew_417 ew_1233 ew_127 ?_
            have hs5 : ShC b0 (ea_new H4 7 0 5) := ShC_new hsH4
            obtain ⟨H6, eH6, E⟩ := let_some E
            refine ea_nm eH6 ?_
            have hsH6 : ShC b0 H6 := by rw [eH6]; exact hs5
            refine ea_dup (pc := 42) dX11_rob_42 rfl ?_
            refine ea_iload_n (pc := 43) dX11_rob_43 rfl 1 rfl ?_
            refine ea_aload_n (pc := 44) dX11_rob_44 rfl 0 rfl ?_
            refine ea_getI (pc := 45) dX11_rob_45 ec_11 (k := 11) (Nat.le_of_ble_eq_true rfl) rfl (Or.inl ew_448) (hsH6.1 0 (by decide)).1 (hsH6.1 0 (by decide)).2.1 ?_
            refine ea_aload_n (pc := 48) dX11_rob_48 rfl 0 rfl ?_
            refine ea_getR (pc := 49) dX11_rob_49 ec_11 (k := 6) (Nat.le_of_ble_eq_true rfl) rfl (Or.inl ew_443) (hsH6.1 0 (by decide)).1 (hsH6.1 0 (by decide)).2.1 (hsH6.2 0 6 rfl) ?_
            refine ea_iload_n (pc := 52) dX11_rob_52 rfl 1 rfl ?_
            refine ea_iconst (pc := 53) dX11_rob_53 (v := 1) rfl ?_
            obtain ⟨z7, E⟩ := gd_some E
            refine ea_callV (pc := 54) (d' := d - 1) (As := [vI (((10 : Int32) * x2) + x1), vI 1]) (st := [vI (ea_i H6 (b0 + 0) 11), vI (((10 : Int32) * x2) + x1), vR (some (ea_n H4)), vR (some (ea_n H4))]) dX11_rob_54 kX1_aboardOf (sX1_aboardOf_at32 (d := d - 1) (by omega) hsH6 z7) (by omega) rfl (Nat.le_of_ble_eq_true rfl) ew_1149 ew_1150 ew_1151 (ci := 1) rfl (by decide) (hsH6.1 32 (by decide)).1 (hsH6.1 32 (by decide)).2.1 ?_
            have hs8 : ShC b0 (wX1_aboardOf_at32 b0 ((((10 : Int32) * x2) + x1) : Int32) (1 : Int32) H6) := shX1_aboardOf_at32 hsH6
            obtain ⟨H9, eH9, E⟩ := let_some E
            refine ea_nm eH9 ?_
            have hsH9 : ShC b0 H9 := by rw [eH9]; exact hs8
            obtain ⟨z10, E⟩ := gd_some E
            refine ea_callI (pc := 57) (d' := d - 1) (As := [vI (((10 : Int32) * x2) + x1), vI (ea_i H6 (b0 + 0) 11), vI (vX1_aboardOf_at32 b0 ((((10 : Int32) * x2) + x1) : Int32) (1 : Int32) H6)]) (st := [vR (some (ea_n H4))]) dX11_rob_57 kX7_init (sX7_init (d := d - 1) (by omega) hsH9 z10) (by omega) rfl (Nat.le_of_ble_eq_true rfl) ew_1234 ew_1235 rfl rfl ?_
            have hs11 : ShC b0 (wX7_init b0 (ea_n H4) ((((10 : Int32) * x2) + x1) : Int32) ((ea_i H6 (b0 + 0) 11) : Int32) ((vX1_aboardOf_at32 b0 ((((10 : Int32) * x2) + x1) : Int32) (1 : Int32) H6) : Int32) H9) := shX7_init hsH9
            obtain ⟨H12, eH12, E⟩ := let_some E
            refine ea_nm eH12 ?_
            have hsH12 : ShC b0 H12 := by rw [eH12]; exact hs11
            refine ea_astore (pc := 60) (lv' := [(0, vR (some (b0 + 0))), (3, vI (((10 : Int32) * x2) + x1)), (4, vR (some (ea_n H4)))]) dX11_rob_60 (Nat.le_of_ble_eq_true rfl) [1, 2, 0] rfl ?_
            refine ea_iconst (pc := 62) dX11_rob_62 (v := 0) rfl ?_
            refine ea_istore (pc := 63) (lv' := [(0, vR (some (b0 + 0))), (3, vI (((10 : Int32) * x2) + x1)), (4, vR (some (ea_n H4))), (5, vI 0)]) dX11_rob_63 (Nat.le_of_ble_eq_true rfl) [1, 2, 3, 0] rfl ?_
            exact ((ih 65 ((some (ea_n H4)) : Option Nat) 0 0 ((((10 : Int32) * x2) + x1) : Int32) (0 : Int32) H12 _ _ E hsH12).2 rfl)
          · have E := (if_pos c13).symm.trans E
            refine ea_iconst (pc := 30) dX11_rob_30 (v := (-1)) rfl ?_
            exact ea_iretO (pc := 31) dX11_rob_31 rfl rfl E
    intro el
    subst el
    have E := (if_neg (by decide)).symm.trans E
    have E := (if_pos rfl).symm.trans E
    refine ea_iload (pc := 65) dX11_rob_65 3 rfl ?_
    refine ea_aload_n (pc := 67) dX11_rob_67 rfl 0 rfl ?_
    refine ea_getR (pc := 68) dX11_rob_68 ec_11 (k := 6) (Nat.le_of_ble_eq_true rfl) rfl (Or.inl ew_443) (hs.1 0 (by decide)).1 (hs.1 0 (by decide)).2.1 (hs.2 0 6 rfl) ?_
    refine ea_getI (pc := 71) dX11_rob_71 ec_1 (k := 0) (Nat.le_of_ble_eq_true rfl) rfl (Or.inl ew_360) (hs.1 32 (by decide)).1 (hs.1 32 (by decide)).2.1 ?_
    refine ea_icmp_ge (pc := 74) (tgt := 141) dX11_rob_74 rfl (fun c41 => ?_) (fun c41 => ?_)
    · have E := (if_pos c41).symm.trans E
      refine ea_aload_n (pc := 141) dX11_rob_141 rfl 0 rfl ?_
      refine ea_getR (pc := 142) dX11_rob_142 ec_11 (k := 9) (Nat.le_of_ble_eq_true rfl) rfl (Or.inl ew_446) (hs.1 0 (by decide)).1 (hs.1 0 (by decide)).2.1 (hs.2 0 9 rfl) ?_
      refine ea_aload_n (pc := 145) dX11_rob_145 rfl 0 rfl ?_
      refine ea_getI (pc := 146) dX11_rob_146 ec_11 (k := 10) (Nat.le_of_ble_eq_true rfl) rfl (Or.inl ew_447) (hs.1 0 (by decide)).1 (hs.1 0 (by decide)).2.1 ?_
      refine ea_aload (pc := 149) dX11_rob_149 2 rfl ?_
      obtain ⟨z16, E⟩ := gd_some E
      obtain ⟨e18, E⟩ := gd_some E
      obtain ⟨f19, E⟩ := gd_some E
      refine ea_deref0 e18 ?_
      refine ea_aast25 (pc := 151) dX11_rob_151 (hs.1 53 (by decide)).1 (hs.1 53 (by decide)).2.1 (ea_vpl (hs.1 53 (by decide)).2.2 z16) f19.1 f19.2 ?_
      have hs17 : ShC b0 (ea_wr h (b0 + 53) (Int32.toNatClampNeg (ea_i h (b0 + 0) 10)) (some (Option.getD r4 0))) := ShC_wr (o := 53) rfl hs
      obtain ⟨H20, eH20, E⟩ := let_some E
      refine ea_nm eH20 ?_
      have hsH20 : ShC b0 H20 := by rw [eH20]; exact hs17
      refine ea_aload_n (pc := 152) dX11_rob_152 rfl 0 rfl ?_
      refine ea_dup (pc := 153) dX11_rob_153 rfl ?_
      refine ea_getI (pc := 154) dX11_rob_154 ec_11 (k := 10) (Nat.le_of_ble_eq_true rfl) rfl (Or.inl ew_447) (hsH20.1 0 (by decide)).1 (hsH20.1 0 (by decide)).2.1 ?_
      refine ea_iconst (pc := 157) dX11_rob_157 (v := 1) rfl ?_
      refine ea_iadd (pc := 158) dX11_rob_158 ?_
      refine ea_putI (pc := 159) dX11_rob_159 ec_11 (k := 10) (Nat.le_of_ble_eq_true rfl) rfl (Or.inl ⟨rfl, Or.inl ew_447⟩) rfl rfl (hsH20.1 0 (by decide)).1 (hsH20.1 0 (by decide)).2.1 ?_
      have hs21 : ShC b0 (ea_wi H20 (b0 + 0) 10 ((ea_i H20 (b0 + 0) 10) + (1 : Int32))) := ShC_wi hsH20
      obtain ⟨H22, eH22, E⟩ := let_some E
      refine ea_nm eH22 ?_
      have hsH22 : ShC b0 H22 := by rw [eH22]; exact hs21
      refine ea_aload_n (pc := 162) dX11_rob_162 rfl 0 rfl ?_
      refine ea_iconst (pc := 163) dX11_rob_163 (v := 0) rfl ?_
      refine ea_putI (pc := 164) dX11_rob_164 ec_11 (k := 12) (Nat.le_of_ble_eq_true rfl) rfl (Or.inl ⟨rfl, Or.inl ew_449⟩) (ea_bn (Or.inl rfl)) (ea_bf (Or.inl rfl)) (hsH22.1 0 (by decide)).1 (hsH22.1 0 (by decide)).2.1 ?_
      have hs23 : ShC b0 (ea_wi H22 (b0 + 0) 12 0) := ShC_wi hsH22
      obtain ⟨H24, eH24, E⟩ := let_some E
      refine ea_nm eH24 ?_
      have hsH24 : ShC b0 H24 := by rw [eH24]; exact hs23
      refine ea_aload_n (pc := 167) dX11_rob_167 rfl 0 rfl ?_
      refine ea_getI (pc := 168) dX11_rob_168 ec_11 (k := 10) (Nat.le_of_ble_eq_true rfl) rfl (Or.inl ew_447) (hsH24.1 0 (by decide)).1 (hsH24.1 0 (by decide)).2.1 ?_
      refine ea_iconst (pc := 171) dX11_rob_171 (v := 1) rfl ?_
      refine ea_isub (pc := 172) dX11_rob_172 ?_
      exact ea_iretO (pc := 173) dX11_rob_173 rfl rfl E
    · have E := (if_neg c41).symm.trans E
      refine ea_aload_n (pc := 77) dX11_rob_77 rfl 0 rfl ?_
      refine ea_getR (pc := 78) dX11_rob_78 ec_11 (k := 6) (Nat.le_of_ble_eq_true rfl) rfl (Or.inl ew_443) (hs.1 0 (by decide)).1 (hs.1 0 (by decide)).2.1 (hs.2 0 6 rfl) ?_
      refine ea_iload (pc := 81) dX11_rob_81 3 rfl ?_
      refine ea_iload_n (pc := 83) dX11_rob_83 rfl 1 rfl ?_
      obtain ⟨z25, E⟩ := gd_some E
      refine ea_callV (pc := 84) (d' := d - 1) (As := [vI x5, vI x3]) (st := []) dX11_rob_84 kX1_isAboard (sX1_isAboard_at32 (d := d - 1) (by omega) hs z25) (by omega) rfl (Nat.le_of_ble_eq_true rfl) ew_1259 ew_705 ew_706 (ci := 1) rfl (by decide) (hs.1 32 (by decide)).1 (hs.1 32 (by decide)).2.1 ?_
      refine ea_if_eq (pc := 87) (tgt := 135) dX11_rob_87 rfl (fun c40 => ?_) (fun c40 => ?_)
      · have E := (if_pos c40).symm.trans E
        refine ea_iinc (pc := 135) (v := 1) (lv' := [(0, vR (some (b0 + 0))), (3, vI x3), (4, vR r4), (5, vI (x5 + (1 : Int32)))]) dX11_rob_135 3 rfl rfl (Nat.le_of_ble_eq_true rfl) [1, 2, 3, 0] rfl ?_
        refine ea_goto (pc := 138) (tgt := 65) dX11_rob_138 rfl ?_
        exact ((ih 65 (r4 : Option Nat) 0 0 (x3 : Int32) ((x5 + (1 : Int32)) : Int32) h _ _ E hs).2 rfl)
      · have E := (if_neg c40).symm.trans E
        refine ea_aload_n (pc := 90) dX11_rob_90 rfl 0 rfl ?_
        refine ea_getR (pc := 91) dX11_rob_91 ec_11 (k := 6) (Nat.le_of_ble_eq_true rfl) rfl (Or.inl ew_443) (hs.1 0 (by decide)).1 (hs.1 0 (by decide)).2.1 (hs.2 0 6 rfl) ?_
        refine ea_getR (pc := 94) dX11_rob_94 ec_1 (k := 5) (Nat.le_of_ble_eq_true rfl) rfl (Or.inl ew_370) (hs.1 32 (by decide)).1 (hs.1 32 (by decide)).2.1 (hs.2 32 5 rfl) ?_
        refine ea_iload (pc := 97) dX11_rob_97 3 rfl ?_
        obtain ⟨z26, E⟩ := gd_some E
        refine ea_zald (pc := 99) dX11_rob_99 (hs.1 37 (by decide)).1 (hs.1 37 (by decide)).2.1 (ea_vpl (hs.1 37 (by decide)).2.2 z26) ?_
        refine ea_if_eq (pc := 100) (tgt := 135) dX11_rob_100 rfl (fun c39 => ?_) (fun c39 => ?_)
        · have E := (if_pos c39).symm.trans E
          refine ea_iinc (pc := 135) (v := 1) (lv' := [(0, vR (some (b0 + 0))), (3, vI x3), (4, vR r4), (5, vI (x5 + (1 : Int32)))]) dX11_rob_135 3 rfl rfl (Nat.le_of_ble_eq_true rfl) [1, 2, 3, 0] rfl ?_
          refine ea_goto (pc := 138) (tgt := 65) dX11_rob_138 rfl ?_
          exact ((ih 65 (r4 : Option Nat) 0 0 (x3 : Int32) ((x5 + (1 : Int32)) : Int32) h _ _ E hs).2 rfl)
        · have E := (if_neg c39).symm.trans E
          refine ea_aload (pc := 103) dX11_rob_103 2 rfl ?_
          refine ea_iload (pc := 105) dX11_rob_105 3 rfl ?_
          refine ea_aload_n (pc := 107) dX11_rob_107 rfl 0 rfl ?_
          refine ea_getR (pc := 108) dX11_rob_108 ec_11 (k := 5) (Nat.le_of_ble_eq_true rfl) rfl (Or.inl ew_442) (hs.1 0 (by decide)).1 (hs.1 0 (by decide)).2.1 (hs.2 0 5 rfl) ?_
          refine ea_iload (pc := 111) dX11_rob_111 3 rfl ?_
          obtain ⟨z27, E⟩ := gd_some E
          refine ea_aald23 (pc := 113) dX11_rob_113 (hs.1 31 (by decide)).1 (hs.1 31 (by decide)).2.1 (ea_vpl (hs.1 31 (by decide)).2.2 z27) rfl ?_
          obtain ⟨e28, E⟩ := gd_some E
          obtain ⟨f29, E⟩ := gd_some E
          obtain ⟨z30, E⟩ := gd_some E
          refine ea_deref0 e28 ?_
          refine ea_callV (pc := 114) (d' := d - 1) (As := []) (st := [vI x5, vR r4]) dX11_rob_114 kX4_owed (sX4_owed (d := d - 1) (by omega) hs z30) (by omega) rfl (Nat.le_of_ble_eq_true rfl) ew_1084 ew_1085 ew_1086 (ci := 4) rfl (by decide) f29.1 f29.2 ?_
          obtain ⟨e31, E⟩ := gd_some E
          obtain ⟨f32, E⟩ := gd_some E
          obtain ⟨z33, E⟩ := gd_some E
          refine ea_deref2 e31 ?_
          refine ea_callV (pc := 117) (d' := d - 1) (As := [vI x5, vI (vX4_owed b0 (Option.getD (ea_r h (b0 + 31) (Int32.toNatClampNeg x5)) 0) h)]) (st := []) dX11_rob_117 kX7_take (sX7_take (d := d - 1) (by omega) hs z33) (by omega) rfl (Nat.le_of_ble_eq_true rfl) ew_1260 ew_1261 ew_1262 (ci := 7) rfl (by decide) f32.1 f32.2 ?_
          have hs34 : ShC b0 (wX7_take b0 (Option.getD r4 0) (x5 : Int32) ((vX4_owed b0 (Option.getD (ea_r h (b0 + 31) (Int32.toNatClampNeg x5)) 0) h) : Int32) h) := shX7_take hs
          obtain ⟨H35, eH35, E⟩ := let_some E
          refine ea_nm eH35 ?_
          have hsH35 : ShC b0 H35 := by rw [eH35]; exact hs34
          refine ea_aload_n (pc := 120) dX11_rob_120 rfl 0 rfl ?_
          refine ea_getR (pc := 121) dX11_rob_121 ec_11 (k := 6) (Nat.le_of_ble_eq_true rfl) rfl (Or.inl ew_443) (hsH35.1 0 (by decide)).1 (hsH35.1 0 (by decide)).2.1 (hsH35.2 0 6 rfl) ?_
          refine ea_iload (pc := 124) dX11_rob_124 3 rfl ?_
          refine ea_aload_n (pc := 126) dX11_rob_126 rfl 0 rfl ?_
          refine ea_getI (pc := 127) dX11_rob_127 ec_11 (k := 11) (Nat.le_of_ble_eq_true rfl) rfl (Or.inl ew_448) (hsH35.1 0 (by decide)).1 (hsH35.1 0 (by decide)).2.1 ?_
          refine ea_iconst (pc := 130) dX11_rob_130 (v := 4) rfl ?_
          refine ea_iload_n (pc := 131) dX11_rob_131 rfl 1 rfl ?_
          obtain ⟨z36, E⟩ := gd_some E
          refine ea_callV (pc := 132) (d' := d - 1) (As := [vI x5, vI (ea_i H35 (b0 + 0) 11), vI 4, vI x3]) (st := []) dX11_rob_132 kX1_move (sX1_move_at32 (d := d - 1) (by omega) hsH35 z36) (by omega) rfl (Nat.le_of_ble_eq_true rfl) ew_1224 ew_646 ew_647 (ci := 1) rfl (by decide) (hsH35.1 32 (by decide)).1 (hsH35.1 32 (by decide)).2.1 ?_
          have hs37 : ShC b0 (wX1_move_at32 b0 (x5 : Int32) ((ea_i H35 (b0 + 0) 11) : Int32) (4 : Int32) (x3 : Int32) H35) := shX1_move_at32 hsH35
          obtain ⟨H38, eH38, E⟩ := let_some E
          refine ea_nm eH38 ?_
          have hsH38 : ShC b0 H38 := by rw [eH38]; exact hs37
          refine ea_iinc (pc := 135) (v := 1) (lv' := [(0, vR (some (b0 + 0))), (3, vI x3), (4, vR r4), (5, vI (x5 + (1 : Int32)))]) dX11_rob_135 3 rfl rfl (Nat.le_of_ble_eq_true rfl) [1, 2, 3, 0] rfl ?_
          refine ea_goto (pc := 138) (tgt := 65) dX11_rob_138 rfl ?_
          exact ((ih 65 (r4 : Option Nat) 0 0 (x3 : Int32) ((x5 + (1 : Int32)) : Int32) H38 _ _ E hsH38).2 rfl)
noncomputable def qX11_rob (b0 : Nat) (x1 : Int32) (x2 : Int32) (h : ea_H) : Option (Int32 × ea_H) := gX11_rob b0 1000000000 0 none x1 x2 0 0 h
def okX11_rob (b0 : Nat) (x1 : Int32) (x2 : Int32) (h : ea_H) : Prop := ∃ x, qX11_rob b0 x1 x2 h = some x
noncomputable def vX11_rob (b0 : Nat) (x1 : Int32) (x2 : Int32) (h : ea_H) : Int32 := ((qX11_rob b0 x1 x2 h).getD (0, h)).1
noncomputable def wX11_rob (b0 : Nat) (x1 : Int32) (x2 : Int32) (h : ea_H) : ea_H := ((qX11_rob b0 x1 x2 h).getD (0, h)).2
theorem sX11_rob {d : Nat} {b0 : Nat} {x1 : Int32} {x2 : Int32} {h : ea_H} (hd : 5 ≤ d) (hs : ShC b0 h) (K : okX11_rob b0 x1 x2 h) : ea_Met mX11_rob d [vR (some (b0 + 0)), vI x1, vI x2] h (some (vI (vX11_rob b0 x1 x2 h))) (wX11_rob b0 x1 x2 h) := by
  obtain ⟨⟨x, y⟩, K⟩ := K
  unfold wX11_rob vX11_rob
  rw [K]
  unfold qX11_rob at K
  exact ea_enter rfl (Nat.le_of_ble_eq_true rfl) ((tX11_rob hd 1000000000 0 none x1 x2 0 0 h x y K hs).1 rfl)
theorem zX11_rob {b0 : Nat} : ∀ (f lbl : Nat) (r4 : Option Nat) (x1 : Int32) (x2 : Int32) (x3 : Int32) (x5 : Int32) (h : ea_H) (r : Int32) (h' : ea_H), gX11_rob b0 f lbl r4 x1 x2 x3 x5 h = some (r, h') → ShC b0 h → ShC b0 h' := by
  intro f
  induction f with
  | zero => intro lbl r4 x1 x2 x3 x5 h r h' E; cases E
  | succ f ih =>
    intro lbl r4 x1 x2 x3 x5 h r h' E hs
    unfold gX11_rob at E
    by_cases el0 : lbl = 0
    · have E := (if_pos el0).symm.trans E
      by_cases c15 : (vX9_hasRun b0 (x1 : Int32) (x2 : Int32) h) = (0 : Int32)
      · have E := (if_pos c15).symm.trans E
        exact ea_shO E hs
      have E := (if_neg c15).symm.trans E
      by_cases c14 : (20 : Int32) ≤ (ea_i h (b0 + 0) 10)
      · have E := (if_pos c14).symm.trans E
        exact ea_shO E hs
      have E := (if_neg c14).symm.trans E
      obtain ⟨z2, E⟩ := gd_some E
      obtain ⟨H4, eH4, E⟩ := let_some E
      have hsH4 : ShC b0 H4 := by rw [eH4]; exact (shX11_isUnderWay hs)
      by_cases c13 : (vX11_isUnderWay b0 (x1 : Int32) (x2 : Int32) h) = (0 : Int32)
      · have E := (if_pos c13).symm.trans E
        exact ea_shO E hsH4
      have E := (if_neg c13).symm.trans E
      obtain ⟨H6, eH6, E⟩ := let_some E
      have hsH6 : ShC b0 H6 := by rw [eH6]; exact (ShC_new hsH4)
      obtain ⟨z7, E⟩ := gd_some E
      obtain ⟨H9, eH9, E⟩ := let_some E
      have hsH9 : ShC b0 H9 := by rw [eH9]; exact (shX1_aboardOf_at32 hsH6)
      obtain ⟨z10, E⟩ := gd_some E
      obtain ⟨H12, eH12, E⟩ := let_some E
      have hsH12 : ShC b0 H12 := by rw [eH12]; exact (shX7_init hsH9)
      exact ih 65 ((some (ea_n H4)) : Option Nat) 0 0 ((((10 : Int32) * x2) + x1) : Int32) (0 : Int32) H12 _ _ E hsH12
    have E := (if_neg el0).symm.trans E
    by_cases el1 : lbl = 65
    · have E := (if_pos el1).symm.trans E
      by_cases c41 : (ea_i h (b0 + 32) 0) ≤ x5
      · have E := (if_pos c41).symm.trans E
        obtain ⟨z16, E⟩ := gd_some E
        obtain ⟨e18, E⟩ := gd_some E
        obtain ⟨f19, E⟩ := gd_some E
        obtain ⟨H20, eH20, E⟩ := let_some E
        have hsH20 : ShC b0 H20 := by rw [eH20]; exact (ShC_wr (o := 53) rfl hs)
        obtain ⟨H22, eH22, E⟩ := let_some E
        have hsH22 : ShC b0 H22 := by rw [eH22]; exact (ShC_wi hsH20)
        obtain ⟨H24, eH24, E⟩ := let_some E
        have hsH24 : ShC b0 H24 := by rw [eH24]; exact (ShC_wi hsH22)
        exact ea_shO E hsH24
      have E := (if_neg c41).symm.trans E
      obtain ⟨z25, E⟩ := gd_some E
      by_cases c40 : (vX1_isAboard_at32 b0 (x5 : Int32) (x3 : Int32) h) = (0 : Int32)
      · have E := (if_pos c40).symm.trans E
        exact ih 65 (r4 : Option Nat) 0 0 (x3 : Int32) ((x5 + (1 : Int32)) : Int32) h _ _ E hs
      have E := (if_neg c40).symm.trans E
      obtain ⟨z26, E⟩ := gd_some E
      by_cases c39 : (ea_i h (b0 + 37) (Int32.toNatClampNeg x5)) = (0 : Int32)
      · have E := (if_pos c39).symm.trans E
        exact ih 65 (r4 : Option Nat) 0 0 (x3 : Int32) ((x5 + (1 : Int32)) : Int32) h _ _ E hs
      have E := (if_neg c39).symm.trans E
      obtain ⟨z27, E⟩ := gd_some E
      obtain ⟨e28, E⟩ := gd_some E
      obtain ⟨f29, E⟩ := gd_some E
      obtain ⟨z30, E⟩ := gd_some E
      obtain ⟨e31, E⟩ := gd_some E
      obtain ⟨f32, E⟩ := gd_some E
      obtain ⟨z33, E⟩ := gd_some E
      obtain ⟨H35, eH35, E⟩ := let_some E
      have hsH35 : ShC b0 H35 := by rw [eH35]; exact (shX7_take hs)
      obtain ⟨z36, E⟩ := gd_some E
      obtain ⟨H38, eH38, E⟩ := let_some E
      have hsH38 : ShC b0 H38 := by rw [eH38]; exact (shX1_move_at32 hsH35)
      exact ih 65 (r4 : Option Nat) 0 0 (x3 : Int32) ((x5 + (1 : Int32)) : Int32) H38 _ _ E hsH38
    have E := (if_neg el1).symm.trans E
    cases E
theorem shX11_rob {b0 : Nat} {x1 : Int32} {x2 : Int32} {h : ea_H} (hs : ShC b0 h) : ShC b0 (wX11_rob b0 x1 x2 h) := by
  unfold wX11_rob
  cases K : qX11_rob b0 x1 x2 h with
  | none => exact hs
  | some x => obtain ⟨x, y⟩ := x; unfold qX11_rob at K; exact zX11_rob _ _ _ _ _ _ _ _ _ _ K hs
noncomputable def gX11_tried (b0 : Nat) : Nat → Nat → Option Nat → Int32 → Int32 → Int64 → ea_H → Option (Int64 × ea_H)
  | 0, _, _, _, _, _, _ => none
  | f + 1, lbl, r2, x1, x5, y3, h =>
    if lbl = 0 then (gd ((okX8_actOf b0 (x1 : Int32) h)) (if (vX8_actOf b0 (x1 : Int32) h) = none then (some (((-1) : Int64), h)) else (gX11_tried b0 f 22 ((vX8_actOf b0 (x1 : Int32) h) : Option Nat) 0 (0 : Int32) (0 : Int64) h))) else
    if lbl = 22 then (if (ea_i h (b0 + 32) 0) ≤ x5 then (some (y3, h)) else (gd (vp_in x5 120) (gd ((okX8_chargeBy b0 (r2 : Option Nat) ((ea_r h (b0 + 31) (Int32.toNatClampNeg x5)) : Option Nat) h)) (ea_let (wX8_chargeBy b0 (r2 : Option Nat) ((ea_r h (b0 + 31) (Int32.toNatClampNeg x5)) : Option Nat) h) fun H7 => (gX11_tried b0 f 22 (r2 : Option Nat) 0 ((x5 + (1 : Int32)) : Int32) ((y3 + (Int32.toInt64 (vX8_chargeBy b0 (r2 : Option Nat) ((ea_r h (b0 + 31) (Int32.toNatClampNeg x5)) : Option Nat) h))) : Int64) H7))))) else none
theorem tX11_tried {d : Nat} {b0 : Nat} {h0 : ea_H} (hd : 5 ≤ d) : ∀ (f lbl : Nat) (r2 : Option Nat) (x1 : Int32) (x5 : Int32) (y3 : Int64) (h : ea_H) (r : Int64) (h' : ea_H), gX11_tried b0 f lbl r2 x1 x5 y3 h = some (r, h') → ShC b0 h → (lbl = 0 → ea_W mX11_tried d h0 (some (vJ r)) h' 0 [(0, vR (some (b0 + 0))), (1, vI x1)] [] h) ∧ (lbl = 22 → ea_W mX11_tried d h0 (some (vJ r)) h' 22 [(0, vR (some (b0 + 0))), (2, vR r2), (3, vJ y3), (5, vI x5)] [] h) := by
  intro f
  induction f with
  | zero => intro lbl r2 x1 x5 y3 h r h' E; cases E
  | succ f ih =>
    intro lbl r2 x1 x5 y3 h r h' E hs
    unfold gX11_tried at E
    refine ⟨?_, ?_⟩
    · intro el
      subst el
      have E := (if_pos rfl).symm.trans E
      refine ea_aload_n (pc := 0) dX11_tried_0 rfl 0 rfl ?_
      refine ea_getR (pc := 1) dX11_tried_1 ec_11 (k := 4) (Nat.le_of_ble_eq_true rfl) rfl (Or.inl ew_441) (hs.1 0 (by decide)).1 (hs.1 0 (by decide)).2.1 (hs.2 0 4 rfl) ?_
      refine ea_iload_n (pc := 4) dX11_tried_4 rfl 1 rfl ?_
      obtain ⟨z1, E⟩ := gd_some E
      refine ea_callV (pc := 5) (d' := d - 1) (As := [vI x1]) (st := []) dX11_tried_5 kX8_actOf (sX8_actOf (d := d - 1) (by omega) hs z1) (by omega) rfl (Nat.le_of_ble_eq_true rfl) ew_920 ew_921 ew_922 (ci := 8) rfl (by decide) (hs.1 21 (by decide)).1 (hs.1 21 (by decide)).2.1 ?_
      refine ea_astore_n (pc := 8) (lv' := [(0, vR (some (b0 + 0))), (2, vR (vX8_actOf b0 (x1 : Int32) h))]) dX11_tried_8 rfl (Nat.le_of_ble_eq_true rfl) [1, 0] rfl ?_
      refine ea_aload_n (pc := 9) dX11_tried_9 rfl 1 rfl ?_
      refine ea_ifnonnull (pc := 10) (tgt := 17) dX11_tried_10 rfl (fun a3 c2 => ?_) (fun c2 => ?_)
      · have c2n : ¬ (vX8_actOf b0 (x1 : Int32) h) = none := by rw [c2]; exact fun q => nomatch q
        have E := (if_neg c2n).symm.trans E
        refine ea_lconst (pc := 17) dX11_tried_17 (v := 0) rfl ?_
        refine ea_lstore_n (pc := 18) (lv' := [(0, vR (some (b0 + 0))), (2, vR (vX8_actOf b0 (x1 : Int32) h)), (3, vJ 0)]) dX11_tried_18 rfl (Nat.le_of_ble_eq_true rfl) [1, 2, 0] rfl ?_
        refine ea_iconst (pc := 19) dX11_tried_19 (v := 0) rfl ?_
        refine ea_istore (pc := 20) (lv' := [(0, vR (some (b0 + 0))), (2, vR (vX8_actOf b0 (x1 : Int32) h)), (3, vJ 0), (5, vI 0)]) dX11_tried_20 (Nat.le_of_ble_eq_true rfl) [1, 2, 3, 0] rfl ?_
        exact ((ih 22 ((vX8_actOf b0 (x1 : Int32) h) : Option Nat) 0 (0 : Int32) (0 : Int64) h _ _ E hs).2 rfl)
      · have E := (if_pos c2).symm.trans E
        refine ea_ldc2 (pc := 13) dX11_tried_13 ew_1206 ?_
        exact ea_lretO (pc := 16) dX11_tried_16 rfl E
    intro el
    subst el
    have E := (if_neg (by decide)).symm.trans E
    have E := (if_pos rfl).symm.trans E
    refine ea_iload (pc := 22) dX11_tried_22 3 rfl ?_
    refine ea_aload_n (pc := 24) dX11_tried_24 rfl 0 rfl ?_
    refine ea_getR (pc := 25) dX11_tried_25 ec_11 (k := 6) (Nat.le_of_ble_eq_true rfl) rfl (Or.inl ew_443) (hs.1 0 (by decide)).1 (hs.1 0 (by decide)).2.1 (hs.2 0 6 rfl) ?_
    refine ea_getI (pc := 28) dX11_tried_28 ec_1 (k := 0) (Nat.le_of_ble_eq_true rfl) rfl (Or.inl ew_360) (hs.1 32 (by decide)).1 (hs.1 32 (by decide)).2.1 ?_
    refine ea_icmp_ge (pc := 31) (tgt := 59) dX11_tried_31 rfl (fun c8 => ?_) (fun c8 => ?_)
    · have E := (if_pos c8).symm.trans E
      refine ea_lload_n (pc := 59) dX11_tried_59 rfl 2 rfl ?_
      exact ea_lretO (pc := 60) dX11_tried_60 rfl E
    · have E := (if_neg c8).symm.trans E
      refine ea_lload_n (pc := 34) dX11_tried_34 rfl 2 rfl ?_
      refine ea_aload_n (pc := 35) dX11_tried_35 rfl 0 rfl ?_
      refine ea_getR (pc := 36) dX11_tried_36 ec_11 (k := 4) (Nat.le_of_ble_eq_true rfl) rfl (Or.inl ew_441) (hs.1 0 (by decide)).1 (hs.1 0 (by decide)).2.1 (hs.2 0 4 rfl) ?_
      refine ea_aload_n (pc := 39) dX11_tried_39 rfl 1 rfl ?_
      refine ea_aload_n (pc := 40) dX11_tried_40 rfl 0 rfl ?_
      refine ea_getR (pc := 41) dX11_tried_41 ec_11 (k := 5) (Nat.le_of_ble_eq_true rfl) rfl (Or.inl ew_442) (hs.1 0 (by decide)).1 (hs.1 0 (by decide)).2.1 (hs.2 0 5 rfl) ?_
      refine ea_iload (pc := 44) dX11_tried_44 3 rfl ?_
      obtain ⟨z4, E⟩ := gd_some E
      refine ea_aald23 (pc := 46) dX11_tried_46 (hs.1 31 (by decide)).1 (hs.1 31 (by decide)).2.1 (ea_vpl (hs.1 31 (by decide)).2.2 z4) rfl ?_
      obtain ⟨z5, E⟩ := gd_some E
      refine ea_callV (pc := 47) (d' := d - 1) (As := [vR r2, vR (ea_r h (b0 + 31) (Int32.toNatClampNeg x5))]) (st := [vJ y3]) dX11_tried_47 kX8_chargeBy (sX8_chargeBy (d := d - 1) (by omega) hs z5) (by omega) rfl (Nat.le_of_ble_eq_true rfl) ew_1311 ew_1047 ew_1048 (ci := 8) rfl (by decide) (hs.1 21 (by decide)).1 (hs.1 21 (by decide)).2.1 ?_
      have hs6 : ShC b0 (wX8_chargeBy b0 (r2 : Option Nat) ((ea_r h (b0 + 31) (Int32.toNatClampNeg x5)) : Option Nat) h) := shX8_chargeBy hs
      obtain ⟨H7, eH7, E⟩ := let_some E
      refine ea_nm eH7 ?_
      have hsH7 : ShC b0 H7 := by rw [eH7]; exact hs6
      refine ea_i2l (pc := 50) dX11_tried_50 ?_
      refine ea_ladd (pc := 51) dX11_tried_51 ?_
      refine ea_lstore_n (pc := 52) (lv' := [(0, vR (some (b0 + 0))), (2, vR r2), (3, vJ (y3 + (Int32.toInt64 (vX8_chargeBy b0 (r2 : Option Nat) ((ea_r h (b0 + 31) (Int32.toNatClampNeg x5)) : Option Nat) h)))), (5, vI x5)]) dX11_tried_52 rfl (Nat.le_of_ble_eq_true rfl) [1, 2, 0, 3] rfl ?_
      refine ea_iinc (pc := 53) (v := 1) (lv' := [(0, vR (some (b0 + 0))), (2, vR r2), (3, vJ (y3 + (Int32.toInt64 (vX8_chargeBy b0 (r2 : Option Nat) ((ea_r h (b0 + 31) (Int32.toNatClampNeg x5)) : Option Nat) h)))), (5, vI (x5 + (1 : Int32)))]) dX11_tried_53 3 rfl rfl (Nat.le_of_ble_eq_true rfl) [1, 2, 3, 0] rfl ?_
      refine ea_goto (pc := 56) (tgt := 22) dX11_tried_56 rfl ?_
      exact ((ih 22 (r2 : Option Nat) 0 ((x5 + (1 : Int32)) : Int32) ((y3 + (Int32.toInt64 (vX8_chargeBy b0 (r2 : Option Nat) ((ea_r h (b0 + 31) (Int32.toNatClampNeg x5)) : Option Nat) h))) : Int64) H7 _ _ E hsH7).2 rfl)
noncomputable def qX11_tried (b0 : Nat) (x1 : Int32) (h : ea_H) : Option (Int64 × ea_H) := gX11_tried b0 1000000000 0 none x1 0 0 h
def okX11_tried (b0 : Nat) (x1 : Int32) (h : ea_H) : Prop := ∃ x, qX11_tried b0 x1 h = some x
noncomputable def vX11_tried (b0 : Nat) (x1 : Int32) (h : ea_H) : Int64 := ((qX11_tried b0 x1 h).getD (0, h)).1
noncomputable def wX11_tried (b0 : Nat) (x1 : Int32) (h : ea_H) : ea_H := ((qX11_tried b0 x1 h).getD (0, h)).2
theorem sX11_tried {d : Nat} {b0 : Nat} {x1 : Int32} {h : ea_H} (hd : 5 ≤ d) (hs : ShC b0 h) (K : okX11_tried b0 x1 h) : ea_Met mX11_tried d [vR (some (b0 + 0)), vI x1] h (some (vJ (vX11_tried b0 x1 h))) (wX11_tried b0 x1 h) := by
  obtain ⟨⟨x, y⟩, K⟩ := K
  unfold wX11_tried vX11_tried
  rw [K]
  unfold qX11_tried at K
  exact ea_enter rfl (Nat.le_of_ble_eq_true rfl) ((tX11_tried hd 1000000000 0 none x1 0 0 h x y K hs).1 rfl)
theorem zX11_tried {b0 : Nat} : ∀ (f lbl : Nat) (r2 : Option Nat) (x1 : Int32) (x5 : Int32) (y3 : Int64) (h : ea_H) (r : Int64) (h' : ea_H), gX11_tried b0 f lbl r2 x1 x5 y3 h = some (r, h') → ShC b0 h → ShC b0 h' := by
  intro f
  induction f with
  | zero => intro lbl r2 x1 x5 y3 h r h' E; cases E
  | succ f ih =>
    intro lbl r2 x1 x5 y3 h r h' E hs
    unfold gX11_tried at E
    by_cases el0 : lbl = 0
    · have E := (if_pos el0).symm.trans E
      obtain ⟨z1, E⟩ := gd_some E
      by_cases c2 : (vX8_actOf b0 (x1 : Int32) h) = none
      · have E := (if_pos c2).symm.trans E
        exact ea_shO E hs
      have E := (if_neg c2).symm.trans E
      exact ih 22 ((vX8_actOf b0 (x1 : Int32) h) : Option Nat) 0 (0 : Int32) (0 : Int64) h _ _ E hs
    have E := (if_neg el0).symm.trans E
    by_cases el1 : lbl = 22
    · have E := (if_pos el1).symm.trans E
      by_cases c8 : (ea_i h (b0 + 32) 0) ≤ x5
      · have E := (if_pos c8).symm.trans E
        exact ea_shO E hs
      have E := (if_neg c8).symm.trans E
      obtain ⟨z4, E⟩ := gd_some E
      obtain ⟨z5, E⟩ := gd_some E
      obtain ⟨H7, eH7, E⟩ := let_some E
      have hsH7 : ShC b0 H7 := by rw [eH7]; exact (shX8_chargeBy hs)
      exact ih 22 (r2 : Option Nat) 0 ((x5 + (1 : Int32)) : Int32) ((y3 + (Int32.toInt64 (vX8_chargeBy b0 (r2 : Option Nat) ((ea_r h (b0 + 31) (Int32.toNatClampNeg x5)) : Option Nat) h))) : Int64) H7 _ _ E hsH7
    have E := (if_neg el1).symm.trans E
    cases E
theorem shX11_tried {b0 : Nat} {x1 : Int32} {h : ea_H} (hs : ShC b0 h) : ShC b0 (wX11_tried b0 x1 h) := by
  unfold wX11_tried
  cases K : qX11_tried b0 x1 h with
  | none => exact hs
  | some x => obtain ⟨x, y⟩ := x; unfold qX11_tried at K; exact zX11_tried _ _ _ _ _ _ _ _ _ K hs
noncomputable def gX1_carry_at32 (b0 : Nat) : Nat → Nat → Int32 → Int32 → Int32 → Int32 → Int32 → Int32 → ea_H → Option (Unit × ea_H)
  | 0, _, _, _, _, _, _, _, _ => none
  | f + 1, lbl, x1, x2, x3, x4, x5, x6, h =>
    if lbl = 0 then (gd ((okX10_refresh b0 h)) (ea_let (wX10_refresh b0 h) fun H3 => (gd ((okX10_firstBehind b0 (x1 : Int32) H3)) (ea_let (wX10_firstBehind b0 (x1 : Int32) H3) fun H6 => (gX1_carry_at32 b0 f 25 0 (x2 : Int32) (((x1 / (1440 : Int32)) + (1 : Int32)) : Int32) ((vX10_firstBehind b0 (x1 : Int32) H3) : Int32) 0 0 H6))))) else
    if lbl = 25 then (if (ea_i h (b0 + 13) 1) ≤ x4 then (gX1_carry_at32 b0 f 125 0 (x2 : Int32) (x3 : Int32) 0 0 0 h) else (if (ea_i h (b0 + 32) 10) ≤ (0 : Int32) then (gX1_carry_at32 b0 f 125 0 (x2 : Int32) (x3 : Int32) 0 0 0 h) else (gd ((okX10_keyAt b0 (x4 : Int32) h)) (if (vX10_minuteIn ((vX10_keyAt b0 (x4 : Int32) h) : Int32) h) ≤ x2 then (gX1_carry_at32 b0 f 71 0 (x2 : Int32) (x3 : Int32) (x4 : Int32) ((vX10_keyAt b0 (x4 : Int32) h) : Int32) ((vX10_minuteIn ((vX10_keyAt b0 (x4 : Int32) h) : Int32) h) : Int32) h) else (gX1_carry_at32 b0 f 125 0 (x2 : Int32) (x3 : Int32) 0 0 0 h))))) else
    if lbl = 71 then (if x6 < (x3 * (1440 : Int32)) then (if (vX10_isGoing (x5 : Int32) h) = (0 : Int32) then (gd ((okX1_comes_at32 b0 (x5 : Int32) (x6 : Int32) h)) (ea_let (wX1_comes_at32 b0 (x5 : Int32) (x6 : Int32) h) fun H15 => (gX1_carry_at32 b0 f 25 0 (x2 : Int32) (x3 : Int32) ((x4 + (1 : Int32)) : Int32) 0 0 H15))) else (gd ((okX1_goes_at32 b0 (x5 : Int32) (x6 : Int32) h)) (ea_let (wX1_goes_at32 b0 (x5 : Int32) (x6 : Int32) h) fun H18 => (gX1_carry_at32 b0 f 25 0 (x2 : Int32) (x3 : Int32) ((x4 + (1 : Int32)) : Int32) 0 0 H18)))) else (gd ((okX1_burn_at32 b0 (x3 : Int32) h)) (ea_let (wX1_burn_at32 b0 (x3 : Int32) h) fun H22 => (gX1_carry_at32 b0 f 71 0 (x2 : Int32) ((x3 + (1 : Int32)) : Int32) (x4 : Int32) (x5 : Int32) (x6 : Int32) H22)))) else
    if lbl = 125 then (if x2 < (x3 * (1440 : Int32)) then (some ((), h)) else (gd ((okX1_burn_at32 b0 (x3 : Int32) h)) (ea_let (wX1_burn_at32 b0 (x3 : Int32) h) fun H26 => (gX1_carry_at32 b0 f 125 0 (x2 : Int32) ((x3 + (1 : Int32)) : Int32) 0 0 0 H26)))) else none
theorem tX1_carry_at32 {d : Nat} {b0 : Nat} {h0 : ea_H} (hd : 6 ≤ d) : ∀ (f lbl : Nat) (x1 : Int32) (x2 : Int32) (x3 : Int32) (x4 : Int32) (x5 : Int32) (x6 : Int32) (h : ea_H) (r : Unit) (h' : ea_H), gX1_carry_at32 b0 f lbl x1 x2 x3 x4 x5 x6 h = some (r, h') → ShC b0 h → (lbl = 0 → ea_W mX1_carry d h0 none h' 0 [(0, vR (some (b0 + 32))), (1, vI x1), (2, vI x2)] [] h) ∧ (lbl = 25 → ea_W mX1_carry d h0 none h' 25 [(0, vR (some (b0 + 32))), (2, vI x2), (3, vI x3), (4, vI x4)] [] h) ∧ (lbl = 71 → ea_W mX1_carry d h0 none h' 71 [(0, vR (some (b0 + 32))), (2, vI x2), (3, vI x3), (4, vI x4), (5, vI x5), (6, vI x6)] [] h) ∧ (lbl = 125 → ea_W mX1_carry d h0 none h' 125 [(0, vR (some (b0 + 32))), (2, vI x2), (3, vI x3)] [] h) := by
  intro f
  induction f with
  | zero => intro lbl x1 x2 x3 x4 x5 x6 h r h' E; cases E
  | succ f ih =>
    intro lbl x1 x2 x3 x4 x5 x6 h r h' E hs
    unfold gX1_carry_at32 at E
    refine ⟨?_, ?_⟩
    · intro el
      subst el
      have E := (if_pos rfl).symm.trans E
      refine ea_aload_n (pc := 0) dX1_carry_0 rfl 0 rfl ?_
      refine ea_getR (pc := 1) dX1_carry_1 ec_1 (k := 12) (Nat.le_of_ble_eq_true rfl) rfl (Or.inl ew_378) (hs.1 32 (by decide)).1 (hs.1 32 (by decide)).2.1 (hs.2 32 12 rfl) ?_
      obtain ⟨z1, E⟩ := gd_some E
      refine ea_callV (pc := 4) (d' := d - 1) (As := []) (st := []) dX1_carry_4 kX10_refresh (sX10_refresh (d := d - 1) (by omega) hs z1) (by omega) rfl (Nat.le_of_ble_eq_true rfl) ew_563 ew_564 ew_565 (ci := 10) rfl (by decide) (hs.1 13 (by decide)).1 (hs.1 13 (by decide)).2.1 ?_
      have hs2 : ShC b0 (wX10_refresh b0 h) := shX10_refresh hs
      obtain ⟨H3, eH3, E⟩ := let_some E
      refine ea_nm eH3 ?_
      have hsH3 : ShC b0 H3 := by rw [eH3]; exact hs2
      refine ea_iload_n (pc := 7) dX1_carry_7 rfl 1 rfl ?_
      refine ea_sipush (pc := 8) dX1_carry_8 (v := 1440) rfl ?_
      refine ea_idiv (pc := 11) dX1_carry_11 (by decide) ?_
      refine ea_iconst (pc := 12) dX1_carry_12 (v := 1) rfl ?_
      refine ea_iadd (pc := 13) dX1_carry_13 ?_
      refine ea_istore_n (pc := 14) (lv' := [(0, vR (some (b0 + 32))), (1, vI x1), (2, vI x2), (3, vI ((x1 / (1440 : Int32)) + (1 : Int32)))]) dX1_carry_14 rfl (Nat.le_of_ble_eq_true rfl) [1, 2, 3, 0] rfl ?_
      refine ea_aload_n (pc := 15) dX1_carry_15 rfl 0 rfl ?_
      refine ea_getR (pc := 16) dX1_carry_16 ec_1 (k := 12) (Nat.le_of_ble_eq_true rfl) rfl (Or.inl ew_378) (hsH3.1 32 (by decide)).1 (hsH3.1 32 (by decide)).2.1 (hsH3.2 32 12 rfl) ?_
      refine ea_iload_n (pc := 19) dX1_carry_19 rfl 1 rfl ?_
      obtain ⟨z4, E⟩ := gd_some E
      refine ea_callV (pc := 20) (d' := d - 1) (As := [vI x1]) (st := []) dX1_carry_20 kX10_firstBehind (sX10_firstBehind (d := d - 1) (by omega) hsH3 z4) (by omega) rfl (Nat.le_of_ble_eq_true rfl) ew_631 ew_632 ew_633 (ci := 10) rfl (by decide) (hsH3.1 13 (by decide)).1 (hsH3.1 13 (by decide)).2.1 ?_
      have hs5 : ShC b0 (wX10_firstBehind b0 (x1 : Int32) H3) := shX10_firstBehind hsH3
      obtain ⟨H6, eH6, E⟩ := let_some E
      refine ea_nm eH6 ?_
      have hsH6 : ShC b0 H6 := by rw [eH6]; exact hs5
      refine ea_istore (pc := 23) (lv' := [(0, vR (some (b0 + 32))), (2, vI x2), (3, vI ((x1 / (1440 : Int32)) + (1 : Int32))), (4, vI (vX10_firstBehind b0 (x1 : Int32) H3))]) dX1_carry_23 (Nat.le_of_ble_eq_true rfl) [1, 3, 4, 0] rfl ?_
      exact ((ih 25 0 (x2 : Int32) (((x1 / (1440 : Int32)) + (1 : Int32)) : Int32) ((vX10_firstBehind b0 (x1 : Int32) H3) : Int32) 0 0 H6 _ _ E hsH6).2.1 rfl)
    refine ⟨?_, ?_⟩
    · intro el
      subst el
      have E := (if_neg (by decide)).symm.trans E
      have E := (if_pos rfl).symm.trans E
      refine ea_iload (pc := 25) dX1_carry_25 3 rfl ?_
      refine ea_aload_n (pc := 27) dX1_carry_27 rfl 0 rfl ?_
      refine ea_getR (pc := 28) dX1_carry_28 ec_1 (k := 12) (Nat.le_of_ble_eq_true rfl) rfl (Or.inl ew_378) (hs.1 32 (by decide)).1 (hs.1 32 (by decide)).2.1 (hs.2 32 12 rfl) ?_
      refine ea_getI (pc := 31) dX1_carry_31 ec_10 (k := 1) (Nat.le_of_ble_eq_true rfl) rfl (Or.inl ew_228) (hs.1 13 (by decide)).1 (hs.1 13 (by decide)).2.1 ?_
      refine ea_icmp_ge (pc := 34) (tgt := 125) dX1_carry_34 rfl (fun c11 => ?_) (fun c11 => ?_)
      · have E := (if_pos c11).symm.trans E
        exact (ea_fewer [0, 1, 2] rfl ((ih 125 0 (x2 : Int32) (x3 : Int32) 0 0 0 h _ _ E hs).2.2.2 rfl))
      · have E := (if_neg c11).symm.trans E
        refine ea_aload_n (pc := 37) dX1_carry_37 rfl 0 rfl ?_
        refine ea_getI (pc := 38) dX1_carry_38 ec_1 (k := 10) (Nat.le_of_ble_eq_true rfl) rfl (Or.inl ew_376) (hs.1 32 (by decide)).1 (hs.1 32 (by decide)).2.1 ?_
        refine ea_if_le (pc := 41) (tgt := 125) dX1_carry_41 rfl (fun c10 => ?_) (fun c10 => ?_)
        · have E := (if_pos c10).symm.trans E
          exact (ea_fewer [0, 1, 2] rfl ((ih 125 0 (x2 : Int32) (x3 : Int32) 0 0 0 h _ _ E hs).2.2.2 rfl))
        · have E := (if_neg c10).symm.trans E
          refine ea_aload_n (pc := 44) dX1_carry_44 rfl 0 rfl ?_
          refine ea_getR (pc := 45) dX1_carry_45 ec_1 (k := 12) (Nat.le_of_ble_eq_true rfl) rfl (Or.inl ew_378) (hs.1 32 (by decide)).1 (hs.1 32 (by decide)).2.1 (hs.2 32 12 rfl) ?_
          refine ea_iload (pc := 48) dX1_carry_48 3 rfl ?_
          obtain ⟨z7, E⟩ := gd_some E
          refine ea_callV (pc := 50) (d' := d - 1) (As := [vI x4]) (st := []) dX1_carry_50 kX10_keyAt (sX10_keyAt (d := d - 1) (by omega) hs z7) (by omega) rfl (Nat.le_of_ble_eq_true rfl) ew_639 ew_636 ew_637 (ci := 10) rfl (by decide) (hs.1 13 (by decide)).1 (hs.1 13 (by decide)).2.1 ?_
          refine ea_istore (pc := 53) (lv' := [(0, vR (some (b0 + 32))), (2, vI x2), (3, vI x3), (4, vI x4), (5, vI (vX10_keyAt b0 (x4 : Int32) h))]) dX1_carry_53 (Nat.le_of_ble_eq_true rfl) [1, 2, 3, 4, 0] rfl ?_
          refine ea_iload (pc := 55) dX1_carry_55 4 rfl ?_
          refine ea_callS (pc := 57) (d' := d - 1) (As := [vI (vX10_keyAt b0 (x4 : Int32) h)]) (st := []) dX1_carry_57 kX10_minuteIn (sX10_minuteIn (d := d - 1) (by omega)) (by omega) rfl (Nat.le_of_ble_eq_true rfl) ew_640 ew_603 ?_
          refine ea_istore (pc := 60) (lv' := [(0, vR (some (b0 + 32))), (2, vI x2), (3, vI x3), (4, vI x4), (5, vI (vX10_keyAt b0 (x4 : Int32) h)), (6, vI (vX10_minuteIn ((vX10_keyAt b0 (x4 : Int32) h) : Int32) h))]) dX1_carry_60 (Nat.le_of_ble_eq_true rfl) [1, 2, 3, 4, 5, 0] rfl ?_
          refine ea_iload (pc := 62) dX1_carry_62 5 rfl ?_
          refine ea_iload_n (pc := 64) dX1_carry_64 rfl 1 rfl ?_
          refine ea_icmp_le (pc := 65) (tgt := 71) dX1_carry_65 rfl (fun c9 => ?_) (fun c9 => ?_)
          · have E := (if_pos c9).symm.trans E
            exact ((ih 71 0 (x2 : Int32) (x3 : Int32) (x4 : Int32) ((vX10_keyAt b0 (x4 : Int32) h) : Int32) ((vX10_minuteIn ((vX10_keyAt b0 (x4 : Int32) h) : Int32) h) : Int32) h _ _ E hs).2.2.1 rfl)
          · have E := (if_neg c9).symm.trans E
            refine ea_goto (pc := 68) (tgt := 125) dX1_carry_68 rfl ?_
            exact (ea_fewer [0, 1, 2] rfl ((ih 125 0 (x2 : Int32) (x3 : Int32) 0 0 0 h _ _ E hs).2.2.2 rfl))
    refine ⟨?_, ?_⟩
    · intro el
      subst el
      have E := (if_neg (by decide)).symm.trans E
      have E := (if_neg (by decide)).symm.trans E
      have E := (if_pos rfl).symm.trans E
      refine ea_iload_n (pc := 71) dX1_carry_71 rfl 2 rfl ?_
      refine ea_sipush (pc := 72) dX1_carry_72 (v := 1440) rfl ?_
      refine ea_imul (pc := 75) dX1_carry_75 ?_
      refine ea_iload (pc := 76) dX1_carry_76 5 rfl ?_
      refine ea_icmp_gt (pc := 78) (tgt := 92) dX1_carry_78 rfl (fun c23 => ?_) (fun c23 => ?_)
      · have E := (if_pos c23).symm.trans E
        refine ea_iload (pc := 92) dX1_carry_92 4 rfl ?_
        refine ea_callS (pc := 94) (d' := d - 1) (As := [vI x5]) (st := []) dX1_carry_94 kX10_isGoing (sX10_isGoing (d := d - 1) (by omega)) (by omega) rfl (Nat.le_of_ble_eq_true rfl) ew_665 ew_590 ?_
        refine ea_if_eq (pc := 97) (tgt := 111) dX1_carry_97 rfl (fun c19 => ?_) (fun c19 => ?_)
        · have E := (if_pos c19).symm.trans E
          refine ea_aload_n (pc := 111) dX1_carry_111 rfl 0 rfl ?_
          refine ea_iload (pc := 112) dX1_carry_112 4 rfl ?_
          refine ea_iload (pc := 114) dX1_carry_114 5 rfl ?_
          obtain ⟨z13, E⟩ := gd_some E
          refine ea_callV (pc := 116) (d' := d - 1) (As := [vI x5, vI x6]) (st := []) dX1_carry_116 kX1_comes (sX1_comes_at32 (d := d - 1) (by omega) hs z13) (by omega) rfl (Nat.le_of_ble_eq_true rfl) ew_712 ew_714 ew_14 (ci := 1) rfl (by decide) (hs.1 32 (by decide)).1 (hs.1 32 (by decide)).2.1 ?_
          have hs14 : ShC b0 (wX1_comes_at32 b0 (x5 : Int32) (x6 : Int32) h) := shX1_comes_at32 hs
          obtain ⟨H15, eH15, E⟩ := let_some E
          refine ea_nm eH15 ?_
          have hsH15 : ShC b0 H15 := by rw [eH15]; exact hs14
          refine ea_iinc (pc := 119) (v := 1) (lv' := [(0, vR (some (b0 + 32))), (2, vI x2), (3, vI x3), (4, vI (x4 + (1 : Int32)))]) dX1_carry_119 3 rfl rfl (Nat.le_of_ble_eq_true rfl) [1, 2, 3, 0] rfl ?_
          refine ea_goto (pc := 122) (tgt := 25) dX1_carry_122 rfl ?_
          exact ((ih 25 0 (x2 : Int32) (x3 : Int32) ((x4 + (1 : Int32)) : Int32) 0 0 H15 _ _ E hsH15).2.1 rfl)
        · have E := (if_neg c19).symm.trans E
          refine ea_aload_n (pc := 100) dX1_carry_100 rfl 0 rfl ?_
          refine ea_iload (pc := 101) dX1_carry_101 4 rfl ?_
          refine ea_iload (pc := 103) dX1_carry_103 5 rfl ?_
          obtain ⟨z16, E⟩ := gd_some E
          refine ea_callV (pc := 105) (d' := d - 1) (As := [vI x5, vI x6]) (st := []) dX1_carry_105 kX1_goes (sX1_goes_at32 (d := d - 1) (by omega) hs z16) (by omega) rfl (Nat.le_of_ble_eq_true rfl) ew_666 ew_668 ew_12 (ci := 1) rfl (by decide) (hs.1 32 (by decide)).1 (hs.1 32 (by decide)).2.1 ?_
          have hs17 : ShC b0 (wX1_goes_at32 b0 (x5 : Int32) (x6 : Int32) h) := shX1_goes_at32 hs
          obtain ⟨H18, eH18, E⟩ := let_some E
          refine ea_nm eH18 ?_
          have hsH18 : ShC b0 H18 := by rw [eH18]; exact hs17
          refine ea_goto (pc := 108) (tgt := 119) dX1_carry_108 rfl ?_
          refine ea_iinc (pc := 119) (v := 1) (lv' := [(0, vR (some (b0 + 32))), (2, vI x2), (3, vI x3), (4, vI (x4 + (1 : Int32)))]) dX1_carry_119 3 rfl rfl (Nat.le_of_ble_eq_true rfl) [1, 2, 3, 0] rfl ?_
          refine ea_goto (pc := 122) (tgt := 25) dX1_carry_122 rfl ?_
          exact ((ih 25 0 (x2 : Int32) (x3 : Int32) ((x4 + (1 : Int32)) : Int32) 0 0 H18 _ _ E hsH18).2.1 rfl)
      · have E := (if_neg c23).symm.trans E
        refine ea_aload_n (pc := 81) dX1_carry_81 rfl 0 rfl ?_
        refine ea_iload_n (pc := 82) dX1_carry_82 rfl 2 rfl ?_
        obtain ⟨z20, E⟩ := gd_some E
        refine ea_callV (pc := 83) (d' := d - 1) (As := [vI x3]) (st := []) dX1_carry_83 kX1_burn (sX1_burn_at32 (d := d - 1) (by omega) hs z20) (by omega) rfl (Nat.le_of_ble_eq_true rfl) ew_641 ew_643 ew_11 (ci := 1) rfl (by decide) (hs.1 32 (by decide)).1 (hs.1 32 (by decide)).2.1 ?_
        have hs21 : ShC b0 (wX1_burn_at32 b0 (x3 : Int32) h) := shX1_burn_at32 hs
        obtain ⟨H22, eH22, E⟩ := let_some E
        refine ea_nm eH22 ?_
        have hsH22 : ShC b0 H22 := by rw [eH22]; exact hs21
        refine ea_iinc (pc := 86) (v := 1) (lv' := [(0, vR (some (b0 + 32))), (2, vI x2), (3, vI (x3 + (1 : Int32))), (4, vI x4), (5, vI x5), (6, vI x6)]) dX1_carry_86 2 rfl rfl (Nat.le_of_ble_eq_true rfl) [1, 2, 0, 3, 4, 5] rfl ?_
        refine ea_goto (pc := 89) (tgt := 71) dX1_carry_89 rfl ?_
        exact ((ih 71 0 (x2 : Int32) ((x3 + (1 : Int32)) : Int32) (x4 : Int32) (x5 : Int32) (x6 : Int32) H22 _ _ E hsH22).2.2.1 rfl)
    intro el
    subst el
    have E := (if_neg (by decide)).symm.trans E
    have E := (if_neg (by decide)).symm.trans E
    have E := (if_neg (by decide)).symm.trans E
    have E := (if_pos rfl).symm.trans E
    refine ea_iload_n (pc := 125) dX1_carry_125 rfl 2 rfl ?_
    refine ea_sipush (pc := 126) dX1_carry_126 (v := 1440) rfl ?_
    refine ea_imul (pc := 129) dX1_carry_129 ?_
    refine ea_iload_n (pc := 130) dX1_carry_130 rfl 1 rfl ?_
    refine ea_icmp_gt (pc := 131) (tgt := 145) dX1_carry_131 rfl (fun c27 => ?_) (fun c27 => ?_)
    · have E := (if_pos c27).symm.trans E
      exact ea_vretO (pc := 145) dX1_carry_145 rfl E
    · have E := (if_neg c27).symm.trans E
      refine ea_aload_n (pc := 134) dX1_carry_134 rfl 0 rfl ?_
      refine ea_iload_n (pc := 135) dX1_carry_135 rfl 2 rfl ?_
      obtain ⟨z24, E⟩ := gd_some E
      refine ea_callV (pc := 136) (d' := d - 1) (As := [vI x3]) (st := []) dX1_carry_136 kX1_burn (sX1_burn_at32 (d := d - 1) (by omega) hs z24) (by omega) rfl (Nat.le_of_ble_eq_true rfl) ew_641 ew_643 ew_11 (ci := 1) rfl (by decide) (hs.1 32 (by decide)).1 (hs.1 32 (by decide)).2.1 ?_
      have hs25 : ShC b0 (wX1_burn_at32 b0 (x3 : Int32) h) := shX1_burn_at32 hs
      obtain ⟨H26, eH26, E⟩ := let_some E
      refine ea_nm eH26 ?_
      have hsH26 : ShC b0 H26 := by rw [eH26]; exact hs25
      refine ea_iinc (pc := 139) (v := 1) (lv' := [(0, vR (some (b0 + 32))), (2, vI x2), (3, vI (x3 + (1 : Int32)))]) dX1_carry_139 2 rfl rfl (Nat.le_of_ble_eq_true rfl) [1, 2, 0] rfl ?_
      refine ea_goto (pc := 142) (tgt := 125) dX1_carry_142 rfl ?_
      exact ((ih 125 0 (x2 : Int32) ((x3 + (1 : Int32)) : Int32) 0 0 0 H26 _ _ E hsH26).2.2.2 rfl)
noncomputable def qX1_carry_at32 (b0 : Nat) (x1 : Int32) (x2 : Int32) (h : ea_H) : Option (Unit × ea_H) := gX1_carry_at32 b0 1000000000 0 x1 x2 0 0 0 0 h
def okX1_carry_at32 (b0 : Nat) (x1 : Int32) (x2 : Int32) (h : ea_H) : Prop := ∃ x, qX1_carry_at32 b0 x1 x2 h = some x
noncomputable def wX1_carry_at32 (b0 : Nat) (x1 : Int32) (x2 : Int32) (h : ea_H) : ea_H := ((qX1_carry_at32 b0 x1 x2 h).getD ((), h)).2
theorem sX1_carry_at32 {d : Nat} {b0 : Nat} {x1 : Int32} {x2 : Int32} {h : ea_H} (hd : 6 ≤ d) (hs : ShC b0 h) (K : okX1_carry_at32 b0 x1 x2 h) : ea_Met mX1_carry d [vR (some (b0 + 32)), vI x1, vI x2] h none (wX1_carry_at32 b0 x1 x2 h) := by
  obtain ⟨⟨x, y⟩, K⟩ := K
  unfold wX1_carry_at32
  rw [K]
  unfold qX1_carry_at32 at K
  exact ea_enter rfl (Nat.le_of_ble_eq_true rfl) ((tX1_carry_at32 hd 1000000000 0 x1 x2 0 0 0 0 h x y K hs).1 rfl)
theorem zX1_carry_at32 {b0 : Nat} : ∀ (f lbl : Nat) (x1 : Int32) (x2 : Int32) (x3 : Int32) (x4 : Int32) (x5 : Int32) (x6 : Int32) (h : ea_H) (r : Unit) (h' : ea_H), gX1_carry_at32 b0 f lbl x1 x2 x3 x4 x5 x6 h = some (r, h') → ShC b0 h → ShC b0 h' := by
  intro f
  induction f with
  | zero => intro lbl x1 x2 x3 x4 x5 x6 h r h' E; cases E
  | succ f ih =>
    intro lbl x1 x2 x3 x4 x5 x6 h r h' E hs
    unfold gX1_carry_at32 at E
    by_cases el0 : lbl = 0
    · have E := (if_pos el0).symm.trans E
      obtain ⟨z1, E⟩ := gd_some E
      obtain ⟨H3, eH3, E⟩ := let_some E
      have hsH3 : ShC b0 H3 := by rw [eH3]; exact (shX10_refresh hs)
      obtain ⟨z4, E⟩ := gd_some E
      obtain ⟨H6, eH6, E⟩ := let_some E
      have hsH6 : ShC b0 H6 := by rw [eH6]; exact (shX10_firstBehind hsH3)
      exact ih 25 0 (x2 : Int32) (((x1 / (1440 : Int32)) + (1 : Int32)) : Int32) ((vX10_firstBehind b0 (x1 : Int32) H3) : Int32) 0 0 H6 _ _ E hsH6
    have E := (if_neg el0).symm.trans E
    by_cases el1 : lbl = 25
    · have E := (if_pos el1).symm.trans E
      by_cases c11 : (ea_i h (b0 + 13) 1) ≤ x4
      · have E := (if_pos c11).symm.trans E
        exact ih 125 0 (x2 : Int32) (x3 : Int32) 0 0 0 h _ _ E hs
      have E := (if_neg c11).symm.trans E
      by_cases c10 : (ea_i h (b0 + 32) 10) ≤ (0 : Int32)
      · have E := (if_pos c10).symm.trans E
        exact ih 125 0 (x2 : Int32) (x3 : Int32) 0 0 0 h _ _ E hs
      have E := (if_neg c10).symm.trans E
      obtain ⟨z7, E⟩ := gd_some E
      by_cases c9 : (vX10_minuteIn ((vX10_keyAt b0 (x4 : Int32) h) : Int32) h) ≤ x2
      · have E := (if_pos c9).symm.trans E
        exact ih 71 0 (x2 : Int32) (x3 : Int32) (x4 : Int32) ((vX10_keyAt b0 (x4 : Int32) h) : Int32) ((vX10_minuteIn ((vX10_keyAt b0 (x4 : Int32) h) : Int32) h) : Int32) h _ _ E hs
      have E := (if_neg c9).symm.trans E
      exact ih 125 0 (x2 : Int32) (x3 : Int32) 0 0 0 h _ _ E hs
    have E := (if_neg el1).symm.trans E
    by_cases el2 : lbl = 71
    · have E := (if_pos el2).symm.trans E
      by_cases c23 : x6 < (x3 * (1440 : Int32))
      · have E := (if_pos c23).symm.trans E
        by_cases c19 : (vX10_isGoing (x5 : Int32) h) = (0 : Int32)
        · have E := (if_pos c19).symm.trans E
          obtain ⟨z13, E⟩ := gd_some E
          obtain ⟨H15, eH15, E⟩ := let_some E
          have hsH15 : ShC b0 H15 := by rw [eH15]; exact (shX1_comes_at32 hs)
          exact ih 25 0 (x2 : Int32) (x3 : Int32) ((x4 + (1 : Int32)) : Int32) 0 0 H15 _ _ E hsH15
        have E := (if_neg c19).symm.trans E
        obtain ⟨z16, E⟩ := gd_some E
        obtain ⟨H18, eH18, E⟩ := let_some E
        have hsH18 : ShC b0 H18 := by rw [eH18]; exact (shX1_goes_at32 hs)
        exact ih 25 0 (x2 : Int32) (x3 : Int32) ((x4 + (1 : Int32)) : Int32) 0 0 H18 _ _ E hsH18
      have E := (if_neg c23).symm.trans E
      obtain ⟨z20, E⟩ := gd_some E
      obtain ⟨H22, eH22, E⟩ := let_some E
      have hsH22 : ShC b0 H22 := by rw [eH22]; exact (shX1_burn_at32 hs)
      exact ih 71 0 (x2 : Int32) ((x3 + (1 : Int32)) : Int32) (x4 : Int32) (x5 : Int32) (x6 : Int32) H22 _ _ E hsH22
    have E := (if_neg el2).symm.trans E
    by_cases el3 : lbl = 125
    · have E := (if_pos el3).symm.trans E
      by_cases c27 : x2 < (x3 * (1440 : Int32))
      · have E := (if_pos c27).symm.trans E
        exact ea_shO E hs
      have E := (if_neg c27).symm.trans E
      obtain ⟨z24, E⟩ := gd_some E
      obtain ⟨H26, eH26, E⟩ := let_some E
      have hsH26 : ShC b0 H26 := by rw [eH26]; exact (shX1_burn_at32 hs)
      exact ih 125 0 (x2 : Int32) ((x3 + (1 : Int32)) : Int32) 0 0 0 H26 _ _ E hsH26
    have E := (if_neg el3).symm.trans E
    cases E
theorem shX1_carry_at32 {b0 : Nat} {x1 : Int32} {x2 : Int32} {h : ea_H} (hs : ShC b0 h) : ShC b0 (wX1_carry_at32 b0 x1 x2 h) := by
  unfold wX1_carry_at32
  cases K : qX1_carry_at32 b0 x1 x2 h with
  | none => exact hs
  | some x => obtain ⟨x, y⟩ := x; unfold qX1_carry_at32 at K; exact zX1_carry_at32 _ _ _ _ _ _ _ _ _ _ _ K hs
noncomputable def gX1_carry_at42 (b0 : Nat) : Nat → Nat → Int32 → Int32 → Int32 → Int32 → Int32 → Int32 → ea_H → Option (Unit × ea_H)
  | 0, _, _, _, _, _, _, _, _ => none
  | f + 1, lbl, x1, x2, x3, x4, x5, x6, h =>
    if lbl = 0 then (gd ((okX10_refresh b0 h)) (ea_let (wX10_refresh b0 h) fun H3 => (gd ((okX10_firstBehind b0 (x1 : Int32) H3)) (ea_let (wX10_firstBehind b0 (x1 : Int32) H3) fun H6 => (gX1_carry_at42 b0 f 25 0 (x2 : Int32) (((x1 / (1440 : Int32)) + (1 : Int32)) : Int32) ((vX10_firstBehind b0 (x1 : Int32) H3) : Int32) 0 0 H6))))) else
    if lbl = 25 then (if (ea_i h (b0 + 13) 1) ≤ x4 then (gX1_carry_at42 b0 f 125 0 (x2 : Int32) (x3 : Int32) 0 0 0 h) else (if (ea_i h (b0 + 42) 10) ≤ (0 : Int32) then (gX1_carry_at42 b0 f 125 0 (x2 : Int32) (x3 : Int32) 0 0 0 h) else (gd ((okX10_keyAt b0 (x4 : Int32) h)) (if (vX10_minuteIn ((vX10_keyAt b0 (x4 : Int32) h) : Int32) h) ≤ x2 then (gX1_carry_at42 b0 f 71 0 (x2 : Int32) (x3 : Int32) (x4 : Int32) ((vX10_keyAt b0 (x4 : Int32) h) : Int32) ((vX10_minuteIn ((vX10_keyAt b0 (x4 : Int32) h) : Int32) h) : Int32) h) else (gX1_carry_at42 b0 f 125 0 (x2 : Int32) (x3 : Int32) 0 0 0 h))))) else
    if lbl = 71 then (if x6 < (x3 * (1440 : Int32)) then (if (vX10_isGoing (x5 : Int32) h) = (0 : Int32) then (gd ((okX1_comes_at42 b0 (x5 : Int32) (x6 : Int32) h)) (ea_let (wX1_comes_at42 b0 (x5 : Int32) (x6 : Int32) h) fun H15 => (gX1_carry_at42 b0 f 25 0 (x2 : Int32) (x3 : Int32) ((x4 + (1 : Int32)) : Int32) 0 0 H15))) else (gd ((okX1_goes_at42 b0 (x5 : Int32) (x6 : Int32) h)) (ea_let (wX1_goes_at42 b0 (x5 : Int32) (x6 : Int32) h) fun H18 => (gX1_carry_at42 b0 f 25 0 (x2 : Int32) (x3 : Int32) ((x4 + (1 : Int32)) : Int32) 0 0 H18)))) else (gd ((okX1_burn_at42 b0 (x3 : Int32) h)) (ea_let (wX1_burn_at42 b0 (x3 : Int32) h) fun H22 => (gX1_carry_at42 b0 f 71 0 (x2 : Int32) ((x3 + (1 : Int32)) : Int32) (x4 : Int32) (x5 : Int32) (x6 : Int32) H22)))) else
    if lbl = 125 then (if x2 < (x3 * (1440 : Int32)) then (some ((), h)) else (gd ((okX1_burn_at42 b0 (x3 : Int32) h)) (ea_let (wX1_burn_at42 b0 (x3 : Int32) h) fun H26 => (gX1_carry_at42 b0 f 125 0 (x2 : Int32) ((x3 + (1 : Int32)) : Int32) 0 0 0 H26)))) else none
theorem tX1_carry_at42 {d : Nat} {b0 : Nat} {h0 : ea_H} (hd : 6 ≤ d) : ∀ (f lbl : Nat) (x1 : Int32) (x2 : Int32) (x3 : Int32) (x4 : Int32) (x5 : Int32) (x6 : Int32) (h : ea_H) (r : Unit) (h' : ea_H), gX1_carry_at42 b0 f lbl x1 x2 x3 x4 x5 x6 h = some (r, h') → ShC b0 h → (lbl = 0 → ea_W mX1_carry d h0 none h' 0 [(0, vR (some (b0 + 42))), (1, vI x1), (2, vI x2)] [] h) ∧ (lbl = 25 → ea_W mX1_carry d h0 none h' 25 [(0, vR (some (b0 + 42))), (2, vI x2), (3, vI x3), (4, vI x4)] [] h) ∧ (lbl = 71 → ea_W mX1_carry d h0 none h' 71 [(0, vR (some (b0 + 42))), (2, vI x2), (3, vI x3), (4, vI x4), (5, vI x5), (6, vI x6)] [] h) ∧ (lbl = 125 → ea_W mX1_carry d h0 none h' 125 [(0, vR (some (b0 + 42))), (2, vI x2), (3, vI x3)] [] h) := by
  intro f
  induction f with
  | zero => intro lbl x1 x2 x3 x4 x5 x6 h r h' E; cases E
  | succ f ih =>
    intro lbl x1 x2 x3 x4 x5 x6 h r h' E hs
    unfold gX1_carry_at42 at E
    refine ⟨?_, ?_⟩
    · intro el
      subst el
      have E := (if_pos rfl).symm.trans E
      refine ea_aload_n (pc := 0) dX1_carry_0 rfl 0 rfl ?_
      refine ea_getR (pc := 1) dX1_carry_1 ec_1 (k := 12) (Nat.le_of_ble_eq_true rfl) rfl (Or.inl ew_378) (hs.1 42 (by decide)).1 (hs.1 42 (by decide)).2.1 (hs.2 42 12 rfl) ?_
      obtain ⟨z1, E⟩ := gd_some E
      refine ea_callV (pc := 4) (d' := d - 1) (As := []) (st := []) dX1_carry_4 kX10_refresh (sX10_refresh (d := d - 1) (by omega) hs z1) (by omega) rfl (Nat.le_of_ble_eq_true rfl) ew_563 ew_564 ew_565 (ci := 10) rfl (by decide) (hs.1 13 (by decide)).1 (hs.1 13 (by decide)).2.1 ?_
      have hs2 : ShC b0 (wX10_refresh b0 h) := shX10_refresh hs
      obtain ⟨H3, eH3, E⟩ := let_some E
      refine ea_nm eH3 ?_
      have hsH3 : ShC b0 H3 := by rw [eH3]; exact hs2
      refine ea_iload_n (pc := 7) dX1_carry_7 rfl 1 rfl ?_
      refine ea_sipush (pc := 8) dX1_carry_8 (v := 1440) rfl ?_
      refine ea_idiv (pc := 11) dX1_carry_11 (by decide) ?_
      refine ea_iconst (pc := 12) dX1_carry_12 (v := 1) rfl ?_
      refine ea_iadd (pc := 13) dX1_carry_13 ?_
      refine ea_istore_n (pc := 14) (lv' := [(0, vR (some (b0 + 42))), (1, vI x1), (2, vI x2), (3, vI ((x1 / (1440 : Int32)) + (1 : Int32)))]) dX1_carry_14 rfl (Nat.le_of_ble_eq_true rfl) [1, 2, 3, 0] rfl ?_
      refine ea_aload_n (pc := 15) dX1_carry_15 rfl 0 rfl ?_
      refine ea_getR (pc := 16) dX1_carry_16 ec_1 (k := 12) (Nat.le_of_ble_eq_true rfl) rfl (Or.inl ew_378) (hsH3.1 42 (by decide)).1 (hsH3.1 42 (by decide)).2.1 (hsH3.2 42 12 rfl) ?_
      refine ea_iload_n (pc := 19) dX1_carry_19 rfl 1 rfl ?_
      obtain ⟨z4, E⟩ := gd_some E
      refine ea_callV (pc := 20) (d' := d - 1) (As := [vI x1]) (st := []) dX1_carry_20 kX10_firstBehind (sX10_firstBehind (d := d - 1) (by omega) hsH3 z4) (by omega) rfl (Nat.le_of_ble_eq_true rfl) ew_631 ew_632 ew_633 (ci := 10) rfl (by decide) (hsH3.1 13 (by decide)).1 (hsH3.1 13 (by decide)).2.1 ?_
      have hs5 : ShC b0 (wX10_firstBehind b0 (x1 : Int32) H3) := shX10_firstBehind hsH3
      obtain ⟨H6, eH6, E⟩ := let_some E
      refine ea_nm eH6 ?_
      have hsH6 : ShC b0 H6 := by rw [eH6]; exact hs5
      refine ea_istore (pc := 23) (lv' := [(0, vR (some (b0 + 42))), (2, vI x2), (3, vI ((x1 / (1440 : Int32)) + (1 : Int32))), (4, vI (vX10_firstBehind b0 (x1 : Int32) H3))]) dX1_carry_23 (Nat.le_of_ble_eq_true rfl) [1, 3, 4, 0] rfl ?_
      exact ((ih 25 0 (x2 : Int32) (((x1 / (1440 : Int32)) + (1 : Int32)) : Int32) ((vX10_firstBehind b0 (x1 : Int32) H3) : Int32) 0 0 H6 _ _ E hsH6).2.1 rfl)
    refine ⟨?_, ?_⟩
    · intro el
      subst el
      have E := (if_neg (by decide)).symm.trans E
      have E := (if_pos rfl).symm.trans E
      refine ea_iload (pc := 25) dX1_carry_25 3 rfl ?_
      refine ea_aload_n (pc := 27) dX1_carry_27 rfl 0 rfl ?_
      refine ea_getR (pc := 28) dX1_carry_28 ec_1 (k := 12) (Nat.le_of_ble_eq_true rfl) rfl (Or.inl ew_378) (hs.1 42 (by decide)).1 (hs.1 42 (by decide)).2.1 (hs.2 42 12 rfl) ?_
      refine ea_getI (pc := 31) dX1_carry_31 ec_10 (k := 1) (Nat.le_of_ble_eq_true rfl) rfl (Or.inl ew_228) (hs.1 13 (by decide)).1 (hs.1 13 (by decide)).2.1 ?_
      refine ea_icmp_ge (pc := 34) (tgt := 125) dX1_carry_34 rfl (fun c11 => ?_) (fun c11 => ?_)
      · have E := (if_pos c11).symm.trans E
        exact (ea_fewer [0, 1, 2] rfl ((ih 125 0 (x2 : Int32) (x3 : Int32) 0 0 0 h _ _ E hs).2.2.2 rfl))
      · have E := (if_neg c11).symm.trans E
        refine ea_aload_n (pc := 37) dX1_carry_37 rfl 0 rfl ?_
        refine ea_getI (pc := 38) dX1_carry_38 ec_1 (k := 10) (Nat.le_of_ble_eq_true rfl) rfl (Or.inl ew_376) (hs.1 42 (by decide)).1 (hs.1 42 (by decide)).2.1 ?_
        refine ea_if_le (pc := 41) (tgt := 125) dX1_carry_41 rfl (fun c10 => ?_) (fun c10 => ?_)
        · have E := (if_pos c10).symm.trans E
          exact (ea_fewer [0, 1, 2] rfl ((ih 125 0 (x2 : Int32) (x3 : Int32) 0 0 0 h _ _ E hs).2.2.2 rfl))
        · have E := (if_neg c10).symm.trans E
          refine ea_aload_n (pc := 44) dX1_carry_44 rfl 0 rfl ?_
          refine ea_getR (pc := 45) dX1_carry_45 ec_1 (k := 12) (Nat.le_of_ble_eq_true rfl) rfl (Or.inl ew_378) (hs.1 42 (by decide)).1 (hs.1 42 (by decide)).2.1 (hs.2 42 12 rfl) ?_
          refine ea_iload (pc := 48) dX1_carry_48 3 rfl ?_
          obtain ⟨z7, E⟩ := gd_some E
          refine ea_callV (pc := 50) (d' := d - 1) (As := [vI x4]) (st := []) dX1_carry_50 kX10_keyAt (sX10_keyAt (d := d - 1) (by omega) hs z7) (by omega) rfl (Nat.le_of_ble_eq_true rfl) ew_639 ew_636 ew_637 (ci := 10) rfl (by decide) (hs.1 13 (by decide)).1 (hs.1 13 (by decide)).2.1 ?_
          refine ea_istore (pc := 53) (lv' := [(0, vR (some (b0 + 42))), (2, vI x2), (3, vI x3), (4, vI x4), (5, vI (vX10_keyAt b0 (x4 : Int32) h))]) dX1_carry_53 (Nat.le_of_ble_eq_true rfl) [1, 2, 3, 4, 0] rfl ?_
          refine ea_iload (pc := 55) dX1_carry_55 4 rfl ?_
          refine ea_callS (pc := 57) (d' := d - 1) (As := [vI (vX10_keyAt b0 (x4 : Int32) h)]) (st := []) dX1_carry_57 kX10_minuteIn (sX10_minuteIn (d := d - 1) (by omega)) (by omega) rfl (Nat.le_of_ble_eq_true rfl) ew_640 ew_603 ?_
          refine ea_istore (pc := 60) (lv' := [(0, vR (some (b0 + 42))), (2, vI x2), (3, vI x3), (4, vI x4), (5, vI (vX10_keyAt b0 (x4 : Int32) h)), (6, vI (vX10_minuteIn ((vX10_keyAt b0 (x4 : Int32) h) : Int32) h))]) dX1_carry_60 (Nat.le_of_ble_eq_true rfl) [1, 2, 3, 4, 5, 0] rfl ?_
          refine ea_iload (pc := 62) dX1_carry_62 5 rfl ?_
          refine ea_iload_n (pc := 64) dX1_carry_64 rfl 1 rfl ?_
          refine ea_icmp_le (pc := 65) (tgt := 71) dX1_carry_65 rfl (fun c9 => ?_) (fun c9 => ?_)
          · have E := (if_pos c9).symm.trans E
            exact ((ih 71 0 (x2 : Int32) (x3 : Int32) (x4 : Int32) ((vX10_keyAt b0 (x4 : Int32) h) : Int32) ((vX10_minuteIn ((vX10_keyAt b0 (x4 : Int32) h) : Int32) h) : Int32) h _ _ E hs).2.2.1 rfl)
          · have E := (if_neg c9).symm.trans E
            refine ea_goto (pc := 68) (tgt := 125) dX1_carry_68 rfl ?_
            exact (ea_fewer [0, 1, 2] rfl ((ih 125 0 (x2 : Int32) (x3 : Int32) 0 0 0 h _ _ E hs).2.2.2 rfl))
    refine ⟨?_, ?_⟩
    · intro el
      subst el
      have E := (if_neg (by decide)).symm.trans E
      have E := (if_neg (by decide)).symm.trans E
      have E := (if_pos rfl).symm.trans E
      refine ea_iload_n (pc := 71) dX1_carry_71 rfl 2 rfl ?_
      refine ea_sipush (pc := 72) dX1_carry_72 (v := 1440) rfl ?_
      refine ea_imul (pc := 75) dX1_carry_75 ?_
      refine ea_iload (pc := 76) dX1_carry_76 5 rfl ?_
      refine ea_icmp_gt (pc := 78) (tgt := 92) dX1_carry_78 rfl (fun c23 => ?_) (fun c23 => ?_)
      · have E := (if_pos c23).symm.trans E
        refine ea_iload (pc := 92) dX1_carry_92 4 rfl ?_
        refine ea_callS (pc := 94) (d' := d - 1) (As := [vI x5]) (st := []) dX1_carry_94 kX10_isGoing (sX10_isGoing (d := d - 1) (by omega)) (by omega) rfl (Nat.le_of_ble_eq_true rfl) ew_665 ew_590 ?_
        refine ea_if_eq (pc := 97) (tgt := 111) dX1_carry_97 rfl (fun c19 => ?_) (fun c19 => ?_)
        · have E := (if_pos c19).symm.trans E
          refine ea_aload_n (pc := 111) dX1_carry_111 rfl 0 rfl ?_
          refine ea_iload (pc := 112) dX1_carry_112 4 rfl ?_
          refine ea_iload (pc := 114) dX1_carry_114 5 rfl ?_
          obtain ⟨z13, E⟩ := gd_some E
          refine ea_callV (pc := 116) (d' := d - 1) (As := [vI x5, vI x6]) (st := []) dX1_carry_116 kX1_comes (sX1_comes_at42 (d := d - 1) (by omega) hs z13) (by omega) rfl (Nat.le_of_ble_eq_true rfl) ew_712 ew_714 ew_14 (ci := 1) rfl (by decide) (hs.1 42 (by decide)).1 (hs.1 42 (by decide)).2.1 ?_
          have hs14 : ShC b0 (wX1_comes_at42 b0 (x5 : Int32) (x6 : Int32) h) := shX1_comes_at42 hs
          obtain ⟨H15, eH15, E⟩ := let_some E
          refine ea_nm eH15 ?_
          have hsH15 : ShC b0 H15 := by rw [eH15]; exact hs14
          refine ea_iinc (pc := 119) (v := 1) (lv' := [(0, vR (some (b0 + 42))), (2, vI x2), (3, vI x3), (4, vI (x4 + (1 : Int32)))]) dX1_carry_119 3 rfl rfl (Nat.le_of_ble_eq_true rfl) [1, 2, 3, 0] rfl ?_
          refine ea_goto (pc := 122) (tgt := 25) dX1_carry_122 rfl ?_
          exact ((ih 25 0 (x2 : Int32) (x3 : Int32) ((x4 + (1 : Int32)) : Int32) 0 0 H15 _ _ E hsH15).2.1 rfl)
        · have E := (if_neg c19).symm.trans E
          refine ea_aload_n (pc := 100) dX1_carry_100 rfl 0 rfl ?_
          refine ea_iload (pc := 101) dX1_carry_101 4 rfl ?_
          refine ea_iload (pc := 103) dX1_carry_103 5 rfl ?_
          obtain ⟨z16, E⟩ := gd_some E
          refine ea_callV (pc := 105) (d' := d - 1) (As := [vI x5, vI x6]) (st := []) dX1_carry_105 kX1_goes (sX1_goes_at42 (d := d - 1) (by omega) hs z16) (by omega) rfl (Nat.le_of_ble_eq_true rfl) ew_666 ew_668 ew_12 (ci := 1) rfl (by decide) (hs.1 42 (by decide)).1 (hs.1 42 (by decide)).2.1 ?_
          have hs17 : ShC b0 (wX1_goes_at42 b0 (x5 : Int32) (x6 : Int32) h) := shX1_goes_at42 hs
          obtain ⟨H18, eH18, E⟩ := let_some E
          refine ea_nm eH18 ?_
          have hsH18 : ShC b0 H18 := by rw [eH18]; exact hs17
          refine ea_goto (pc := 108) (tgt := 119) dX1_carry_108 rfl ?_
          refine ea_iinc (pc := 119) (v := 1) (lv' := [(0, vR (some (b0 + 42))), (2, vI x2), (3, vI x3), (4, vI (x4 + (1 : Int32)))]) dX1_carry_119 3 rfl rfl (Nat.le_of_ble_eq_true rfl) [1, 2, 3, 0] rfl ?_
          refine ea_goto (pc := 122) (tgt := 25) dX1_carry_122 rfl ?_
          exact ((ih 25 0 (x2 : Int32) (x3 : Int32) ((x4 + (1 : Int32)) : Int32) 0 0 H18 _ _ E hsH18).2.1 rfl)
      · have E := (if_neg c23).symm.trans E
        refine ea_aload_n (pc := 81) dX1_carry_81 rfl 0 rfl ?_
        refine ea_iload_n (pc := 82) dX1_carry_82 rfl 2 rfl ?_
        obtain ⟨z20, E⟩ := gd_some E
        refine ea_callV (pc := 83) (d' := d - 1) (As := [vI x3]) (st := []) dX1_carry_83 kX1_burn (sX1_burn_at42 (d := d - 1) (by omega) hs z20) (by omega) rfl (Nat.le_of_ble_eq_true rfl) ew_641 ew_643 ew_11 (ci := 1) rfl (by decide) (hs.1 42 (by decide)).1 (hs.1 42 (by decide)).2.1 ?_
        have hs21 : ShC b0 (wX1_burn_at42 b0 (x3 : Int32) h) := shX1_burn_at42 hs
        obtain ⟨H22, eH22, E⟩ := let_some E
        refine ea_nm eH22 ?_
        have hsH22 : ShC b0 H22 := by rw [eH22]; exact hs21
        refine ea_iinc (pc := 86) (v := 1) (lv' := [(0, vR (some (b0 + 42))), (2, vI x2), (3, vI (x3 + (1 : Int32))), (4, vI x4), (5, vI x5), (6, vI x6)]) dX1_carry_86 2 rfl rfl (Nat.le_of_ble_eq_true rfl) [1, 2, 0, 3, 4, 5] rfl ?_
        refine ea_goto (pc := 89) (tgt := 71) dX1_carry_89 rfl ?_
        exact ((ih 71 0 (x2 : Int32) ((x3 + (1 : Int32)) : Int32) (x4 : Int32) (x5 : Int32) (x6 : Int32) H22 _ _ E hsH22).2.2.1 rfl)
    intro el
    subst el
    have E := (if_neg (by decide)).symm.trans E
    have E := (if_neg (by decide)).symm.trans E
    have E := (if_neg (by decide)).symm.trans E
    have E := (if_pos rfl).symm.trans E
    refine ea_iload_n (pc := 125) dX1_carry_125 rfl 2 rfl ?_
    refine ea_sipush (pc := 126) dX1_carry_126 (v := 1440) rfl ?_
    refine ea_imul (pc := 129) dX1_carry_129 ?_
    refine ea_iload_n (pc := 130) dX1_carry_130 rfl 1 rfl ?_
    refine ea_icmp_gt (pc := 131) (tgt := 145) dX1_carry_131 rfl (fun c27 => ?_) (fun c27 => ?_)
    · have E := (if_pos c27).symm.trans E
      exact ea_vretO (pc := 145) dX1_carry_145 rfl E
    · have E := (if_neg c27).symm.trans E
      refine ea_aload_n (pc := 134) dX1_carry_134 rfl 0 rfl ?_
      refine ea_iload_n (pc := 135) dX1_carry_135 rfl 2 rfl ?_
      obtain ⟨z24, E⟩ := gd_some E
      refine ea_callV (pc := 136) (d' := d - 1) (As := [vI x3]) (st := []) dX1_carry_136 kX1_burn (sX1_burn_at42 (d := d - 1) (by omega) hs z24) (by omega) rfl (Nat.le_of_ble_eq_true rfl) ew_641 ew_643 ew_11 (ci := 1) rfl (by decide) (hs.1 42 (by decide)).1 (hs.1 42 (by decide)).2.1 ?_
      have hs25 : ShC b0 (wX1_burn_at42 b0 (x3 : Int32) h) := shX1_burn_at42 hs
      obtain ⟨H26, eH26, E⟩ := let_some E
      refine ea_nm eH26 ?_
      have hsH26 : ShC b0 H26 := by rw [eH26]; exact hs25
      refine ea_iinc (pc := 139) (v := 1) (lv' := [(0, vR (some (b0 + 42))), (2, vI x2), (3, vI (x3 + (1 : Int32)))]) dX1_carry_139 2 rfl rfl (Nat.le_of_ble_eq_true rfl) [1, 2, 0] rfl ?_
      refine ea_goto (pc := 142) (tgt := 125) dX1_carry_142 rfl ?_
      exact ((ih 125 0 (x2 : Int32) ((x3 + (1 : Int32)) : Int32) 0 0 0 H26 _ _ E hsH26).2.2.2 rfl)
noncomputable def qX1_carry_at42 (b0 : Nat) (x1 : Int32) (x2 : Int32) (h : ea_H) : Option (Unit × ea_H) := gX1_carry_at42 b0 1000000000 0 x1 x2 0 0 0 0 h
def okX1_carry_at42 (b0 : Nat) (x1 : Int32) (x2 : Int32) (h : ea_H) : Prop := ∃ x, qX1_carry_at42 b0 x1 x2 h = some x
noncomputable def wX1_carry_at42 (b0 : Nat) (x1 : Int32) (x2 : Int32) (h : ea_H) : ea_H := ((qX1_carry_at42 b0 x1 x2 h).getD ((), h)).2
theorem sX1_carry_at42 {d : Nat} {b0 : Nat} {x1 : Int32} {x2 : Int32} {h : ea_H} (hd : 6 ≤ d) (hs : ShC b0 h) (K : okX1_carry_at42 b0 x1 x2 h) : ea_Met mX1_carry d [vR (some (b0 + 42)), vI x1, vI x2] h none (wX1_carry_at42 b0 x1 x2 h) := by
  obtain ⟨⟨x, y⟩, K⟩ := K
  unfold wX1_carry_at42
  rw [K]
  unfold qX1_carry_at42 at K
  exact ea_enter rfl (Nat.le_of_ble_eq_true rfl) ((tX1_carry_at42 hd 1000000000 0 x1 x2 0 0 0 0 h x y K hs).1 rfl)
