/-! the class, 2 -/
theorem zX8_worth {b0 : Nat} : ∀ (f lbl : Nat) (r1 : Option Nat) (x2 : Int32) (x3 : Int32) (x4 : Int32) (x5 : Int32) (h : ea_H) (r : Int32) (h' : ea_H), gX8_worth b0 f lbl r1 x2 x3 x4 x5 h = some (r, h') → ShC b0 h → ShC b0 h' := by
  intro f
  induction f with
  | zero => intro lbl r1 x2 x3 x4 x5 h r h' E; cases E
  | succ f ih =>
    intro lbl r1 x2 x3 x4 x5 h r h' E hs
    unfold gX8_worth at E
    by_cases el0 : lbl = 0
    · have E := (if_pos el0).symm.trans E
      exact ih 5 (r1 : Option Nat) 0 (0 : Int32) (x2 : Int32) 0 h _ _ E hs
    have E := (if_neg el0).symm.trans E
    by_cases el1 : lbl = 5
    · have E := (if_pos el1).symm.trans E
      by_cases c28 : x4 < (0 : Int32)
      · have E := (if_pos c28).symm.trans E
        exact ih 166 none 0 (x3 : Int32) 0 0 h _ _ E hs
      have E := (if_neg c28).symm.trans E
      obtain ⟨e1, E⟩ := gd_some E
      obtain ⟨f2, E⟩ := gd_some E
      by_cases c27 : (Int32.ofNat (ea_l h (Option.getD r1 0))) ≤ x4
      · have E := (if_pos c27).symm.trans E
        exact ih 166 none 0 (x3 : Int32) 0 0 h _ _ E hs
      have E := (if_neg c27).symm.trans E
      obtain ⟨e3, E⟩ := gd_some E
      obtain ⟨f4, E⟩ := gd_some E
      obtain ⟨z5, E⟩ := gd_some E
      by_cases c26 : (ea_i h (Option.getD r1 0) (Int32.toNatClampNeg x4)) = ((-100) : Int32)
      · have E := (if_pos c26).symm.trans E
        exact ih 166 none 0 (x3 : Int32) 0 0 h _ _ E hs
      have E := (if_neg c26).symm.trans E
      obtain ⟨e6, E⟩ := gd_some E
      obtain ⟨f7, E⟩ := gd_some E
      obtain ⟨z8, E⟩ := gd_some E
      by_cases c25 : (ea_i h (Option.getD r1 0) (Int32.toNatClampNeg x4)) ≤ ((-10) : Int32)
      · have E := (if_pos c25).symm.trans E
        by_cases c14 : (ea_i h (Option.getD r1 0) (Int32.toNatClampNeg x4)) = ((-17) : Int32)
        · have E := (if_pos c14).symm.trans E
          by_cases c13 : x3 ≤ (0 : Int32)
          · have E := (if_pos c13).symm.trans E
            exact ih 125 (r1 : Option Nat) 0 (x3 : Int32) (x4 : Int32) ((ea_i h (Option.getD r1 0) (Int32.toNatClampNeg x4)) : Int32) h _ _ E hs
          have E := (if_neg c13).symm.trans E
          obtain ⟨z9, E⟩ := gd_some E
          obtain ⟨z10, E⟩ := gd_some E
          obtain ⟨H12, eH12, E⟩ := let_some E
          have hsH12 : ShC b0 H12 := by rw [eH12]; exact (ShC_wi hs)
          exact ih 5 (r1 : Option Nat) 0 (x3 : Int32) ((x4 + (1 : Int32)) : Int32) 0 H12 _ _ E hsH12
        have E := (if_neg c14).symm.trans E
        exact ih 125 (r1 : Option Nat) 0 (x3 : Int32) (x4 : Int32) ((ea_i h (Option.getD r1 0) (Int32.toNatClampNeg x4)) : Int32) h _ _ E hs
      have E := (if_neg c25).symm.trans E
      by_cases c24 : (64 : Int32) ≤ x3
      · have E := (if_pos c24).symm.trans E
        exact ea_shO E hs
      have E := (if_neg c24).symm.trans E
      by_cases c23 : (((-1) : Int32) - (ea_i h (Option.getD r1 0) (Int32.toNatClampNeg x4))) < (7 : Int32)
      · have E := (if_pos c23).symm.trans E
        by_cases c22 : (ea_i h (Option.getD r1 0) (Int32.toNatClampNeg x4)) < (0 : Int32)
        · have E := (if_pos c22).symm.trans E
          obtain ⟨z15, E⟩ := gd_some E
          obtain ⟨z16, E⟩ := gd_some E
          obtain ⟨H18, eH18, E⟩ := let_some E
          have hsH18 : ShC b0 H18 := by rw [eH18]; exact (ShC_wi hs)
          exact ih 5 (r1 : Option Nat) 0 ((x3 + (1 : Int32)) : Int32) ((x4 + (1 : Int32)) : Int32) 0 H18 _ _ E hsH18
        have E := (if_neg c22).symm.trans E
        obtain ⟨z19, E⟩ := gd_some E
        obtain ⟨H21, eH21, E⟩ := let_some E
        have hsH21 : ShC b0 H21 := by rw [eH21]; exact (ShC_wi hs)
        exact ih 5 (r1 : Option Nat) 0 ((x3 + (1 : Int32)) : Int32) ((x4 + (1 : Int32)) : Int32) 0 H21 _ _ E hsH21
      have E := (if_neg c23).symm.trans E
      exact ea_shO E hs
    have E := (if_neg el1).symm.trans E
    by_cases el2 : lbl = 125
    · have E := (if_pos el2).symm.trans E
      by_cases c35 : x3 ≤ (1 : Int32)
      · have E := (if_pos c35).symm.trans E
        exact ih 5 (r1 : Option Nat) 0 (x3 : Int32) ((x4 + (1 : Int32)) : Int32) 0 h _ _ E hs
      have E := (if_neg c35).symm.trans E
      obtain ⟨z29, E⟩ := gd_some E
      obtain ⟨z30, E⟩ := gd_some E
      obtain ⟨z31, E⟩ := gd_some E
      obtain ⟨z32, E⟩ := gd_some E
      obtain ⟨H34, eH34, E⟩ := let_some E
      have hsH34 : ShC b0 H34 := by rw [eH34]; exact (ShC_wi hs)
      exact ih 5 (r1 : Option Nat) 0 ((x3 + ((-1) : Int32)) : Int32) ((x4 + (1 : Int32)) : Int32) 0 H34 _ _ E hsH34
    have E := (if_neg el2).symm.trans E
    by_cases el3 : lbl = 166
    · have E := (if_pos el3).symm.trans E
      by_cases c37 : x3 ≤ (0 : Int32)
      · have E := (if_pos c37).symm.trans E
        exact ea_shO E hs
      have E := (if_neg c37).symm.trans E
      obtain ⟨z36, E⟩ := gd_some E
      exact ea_shO E hs
    have E := (if_neg el3).symm.trans E
    cases E
theorem shX8_worth {b0 : Nat} {r1 : Option Nat} {x2 : Int32} {h : ea_H} (hs : ShC b0 h) : ShC b0 (wX8_worth b0 r1 x2 h) := by
  unfold wX8_worth
  cases K : qX8_worth b0 r1 x2 h with
  | none => exact hs
  | some x => obtain ⟨x, y⟩ := x; unfold qX8_worth at K; exact zX8_worth _ _ _ _ _ _ _ _ _ _ K hs
noncomputable def gX9_init (a0 : Nat) : Nat → Nat → ea_H → Option (Unit × ea_H)
  | 0, _, _ => none
  | f + 1, lbl, h =>
    (ea_let (ea_new h 20 10 10) fun H2 => (gd ((a0 < ea_n H2 ∧ ea_c H2 a0 = 9)) (ea_let (ea_wr H2 a0 1 (some (ea_n h))) fun H5 => (ea_let (ea_new H5 20 80 80) fun H7 => (gd ((a0 < ea_n H7 ∧ ea_c H7 a0 = 9)) (ea_let (ea_wr H7 a0 2 (some (ea_n H5))) fun H10 => (ea_let (ea_new H10 20 80 80) fun H12 => (gd ((a0 < ea_n H12 ∧ ea_c H12 a0 = 9)) (ea_let (ea_wr H12 a0 3 (some (ea_n H10))) fun H15 => (ea_let (ea_new H15 20 80 80) fun H17 => (gd ((a0 < ea_n H17 ∧ ea_c H17 a0 = 9)) (ea_let (ea_wr H17 a0 4 (some (ea_n H15))) fun H20 => (ea_let (ea_new H20 21 80 80) fun H22 => (gd ((a0 < ea_n H22 ∧ ea_c H22 a0 = 9)) (ea_let (ea_wr H22 a0 5 (some (ea_n H20))) fun H25 => (ea_let (ea_new H25 20 70 70) fun H27 => (gd ((a0 < ea_n H27 ∧ ea_c H27 a0 = 9)) (ea_let (ea_wr H27 a0 6 (some (ea_n H25))) fun H30 => (ea_let (ea_new H30 21 560 560) fun H32 => (gd ((a0 < ea_n H32 ∧ ea_c H32 a0 = 9)) (ea_let (ea_wr H32 a0 7 (some (ea_n H30))) fun H35 => (some ((), H35)))))))))))))))))))))))
theorem tX9_init {d : Nat} {a0 : Nat} {h0 : ea_H} (hd : 2 ≤ d) : ∀ (f lbl : Nat) (h : ea_H) (r : Unit) (h' : ea_H), gX9_init a0 f lbl  h = some (r, h') → (lbl = 0 → ea_W mX9_init d h0 none h' 0 [(0, vR (some a0))] [] h) := by
  intro f
  induction f with
  | zero => intro lbl  h r h' E; cases E
  | succ f ih =>
    intro lbl  h r h' E
    unfold gX9_init at E
    intro el
    subst el
    refine ea_aload_n (pc := 0) dX9_init_0 rfl 0 rfl ?_
    refine ea_objInit (pc := 1) dX9_init_1 ew_176 ew_134 ew_135 (by omega) (Nat.le_of_ble_eq_true rfl) ?_
    refine ea_aload_n (pc := 4) dX9_init_4 rfl 0 rfl ?_
    refine ea_bipush (pc := 5) dX9_init_5 (v := 10) rfl ?_
    refine ea_newI (pc := 7) (N := 10) dX9_init_7 ew_170 (by decide) rfl (Nat.le_of_ble_eq_true rfl) ?_
    obtain ⟨H2, eH2, E⟩ := let_some E
    refine ea_nm eH2 ?_
    obtain ⟨f3, E⟩ := gd_some E
    refine ea_putR (pc := 9) dX9_init_9 ec_9 (k := 1) (Nat.le_of_ble_eq_true rfl) rfl (Or.inr ⟨rfl, rfl, rfl, ew_180⟩) f3.1 f3.2 ?_
    obtain ⟨H5, eH5, E⟩ := let_some E
    refine ea_nm eH5 ?_
    refine ea_aload_n (pc := 12) dX9_init_12 rfl 0 rfl ?_
    refine ea_bipush (pc := 13) dX9_init_13 (v := 80) rfl ?_
    refine ea_newI (pc := 15) (N := 80) dX9_init_15 ew_170 (by decide) rfl (Nat.le_of_ble_eq_true rfl) ?_
    obtain ⟨H7, eH7, E⟩ := let_some E
    refine ea_nm eH7 ?_
    obtain ⟨f8, E⟩ := gd_some E
    refine ea_putR (pc := 17) dX9_init_17 ec_9 (k := 2) (Nat.le_of_ble_eq_true rfl) rfl (Or.inr ⟨rfl, rfl, rfl, ew_184⟩) f8.1 f8.2 ?_
    obtain ⟨H10, eH10, E⟩ := let_some E
    refine ea_nm eH10 ?_
    refine ea_aload_n (pc := 20) dX9_init_20 rfl 0 rfl ?_
    refine ea_bipush (pc := 21) dX9_init_21 (v := 80) rfl ?_
    refine ea_newI (pc := 23) (N := 80) dX9_init_23 ew_170 (by decide) rfl (Nat.le_of_ble_eq_true rfl) ?_
    obtain ⟨H12, eH12, E⟩ := let_some E
    refine ea_nm eH12 ?_
    obtain ⟨f13, E⟩ := gd_some E
    refine ea_putR (pc := 25) dX9_init_25 ec_9 (k := 3) (Nat.le_of_ble_eq_true rfl) rfl (Or.inr ⟨rfl, rfl, rfl, ew_188⟩) f13.1 f13.2 ?_
    obtain ⟨H15, eH15, E⟩ := let_some E
    refine ea_nm eH15 ?_
    refine ea_aload_n (pc := 28) dX9_init_28 rfl 0 rfl ?_
    refine ea_bipush (pc := 29) dX9_init_29 (v := 80) rfl ?_
    refine ea_newI (pc := 31) (N := 80) dX9_init_31 ew_170 (by decide) rfl (Nat.le_of_ble_eq_true rfl) ?_
    obtain ⟨H17, eH17, E⟩ := let_some E
    refine ea_nm eH17 ?_
    obtain ⟨f18, E⟩ := gd_some E
    refine ea_putR (pc := 33) dX9_init_33 ec_9 (k := 4) (Nat.le_of_ble_eq_true rfl) rfl (Or.inr ⟨rfl, rfl, rfl, ew_191⟩) f18.1 f18.2 ?_
    obtain ⟨H20, eH20, E⟩ := let_some E
    refine ea_nm eH20 ?_
    refine ea_aload_n (pc := 36) dX9_init_36 rfl 0 rfl ?_
    refine ea_bipush (pc := 37) dX9_init_37 (v := 80) rfl ?_
    refine ea_newZ (pc := 39) (N := 80) dX9_init_39 ew_218 (by decide) rfl (Nat.le_of_ble_eq_true rfl) ?_
    obtain ⟨H22, eH22, E⟩ := let_some E
    refine ea_nm eH22 ?_
    obtain ⟨f23, E⟩ := gd_some E
    refine ea_putR (pc := 41) dX9_init_41 ec_9 (k := 5) (Nat.le_of_ble_eq_true rfl) rfl (Or.inr ⟨rfl, rfl, rfl, ew_194⟩) f23.1 f23.2 ?_
    obtain ⟨H25, eH25, E⟩ := let_some E
    refine ea_nm eH25 ?_
    refine ea_aload_n (pc := 44) dX9_init_44 rfl 0 rfl ?_
    refine ea_bipush (pc := 45) dX9_init_45 (v := 70) rfl ?_
    refine ea_newI (pc := 47) (N := 70) dX9_init_47 ew_170 (by decide) rfl (Nat.le_of_ble_eq_true rfl) ?_
    obtain ⟨H27, eH27, E⟩ := let_some E
    refine ea_nm eH27 ?_
    obtain ⟨f28, E⟩ := gd_some E
    refine ea_putR (pc := 49) dX9_init_49 ec_9 (k := 6) (Nat.le_of_ble_eq_true rfl) rfl (Or.inr ⟨rfl, rfl, rfl, ew_196⟩) f28.1 f28.2 ?_
    obtain ⟨H30, eH30, E⟩ := let_some E
    refine ea_nm eH30 ?_
    refine ea_aload_n (pc := 52) dX9_init_52 rfl 0 rfl ?_
    refine ea_sipush (pc := 53) dX9_init_53 (v := 560) rfl ?_
    refine ea_newZ (pc := 56) (N := 560) dX9_init_56 ew_218 (by decide) rfl (Nat.le_of_ble_eq_true rfl) ?_
    obtain ⟨H32, eH32, E⟩ := let_some E
    refine ea_nm eH32 ?_
    obtain ⟨f33, E⟩ := gd_some E
    refine ea_putR (pc := 58) dX9_init_58 ec_9 (k := 7) (Nat.le_of_ble_eq_true rfl) rfl (Or.inr ⟨rfl, rfl, rfl, ew_198⟩) f33.1 f33.2 ?_
    obtain ⟨H35, eH35, E⟩ := let_some E
    refine ea_nm eH35 ?_
    exact ea_vretO (pc := 61) dX9_init_61 rfl E
noncomputable def qX9_init (a0 : Nat) (h : ea_H) : Option (Unit × ea_H) := gX9_init a0 1000000000 0  h
def okX9_init (a0 : Nat) (h : ea_H) : Prop := ∃ x, qX9_init a0 h = some x
noncomputable def wX9_init (a0 : Nat) (h : ea_H) : ea_H := ((qX9_init a0 h).getD ((), h)).2
theorem sX9_init {d : Nat} {a0 : Nat} {h : ea_H} (hd : 2 ≤ d) (K : okX9_init a0 h) : ea_Met mX9_init d [vR (some a0)] h none (wX9_init a0 h) := by
  obtain ⟨⟨x, y⟩, K⟩ := K
  unfold wX9_init
  rw [K]
  unfold qX9_init at K
  exact ea_enter rfl (Nat.le_of_ble_eq_true rfl) ((tX9_init hd 1000000000 0  h x y K) rfl)
noncomputable def gX9_add (b0 : Nat) : Nat → Nat → Int32 → Int32 → Int32 → Int32 → Int32 → Int32 → Int32 → ea_H → Option (Int32 × ea_H)
  | 0, _, _, _, _, _, _, _, _, _ => none
  | f + 1, lbl, x1, x2, x3, x4, x5, x6, x7, h =>
    if lbl = 0 then (gd (vp_in x1 10) (if (8 : Int32) ≤ (ea_i h (b0 + 6) (Int32.toNatClampNeg x1)) then (some (((-1) : Int32), h)) else (if x3 < (0 : Int32) then (some (((-1) : Int32), h)) else (if x4 < x3 then (some (((-1) : Int32), h)) else (if x4 ≤ (2400 : Int32) then (if x5 = (0 : Int32) then (gX9_add b0 f 48 (x1 : Int32) (x2 : Int32) (x3 : Int32) (x4 : Int32) (x5 : Int32) ((ea_i h (b0 + 6) (Int32.toNatClampNeg x1)) : Int32) 0 h) else (if x3 = x4 then (gX9_add b0 f 48 (x1 : Int32) (x2 : Int32) (x3 : Int32) (x4 : Int32) (x5 : Int32) ((ea_i h (b0 + 6) (Int32.toNatClampNeg x1)) : Int32) 0 h) else (some (((-1) : Int32), h)))) else (some (((-1) : Int32), h))))))) else
    if lbl = 48 then (if x6 ≤ (0 : Int32) then (gX9_add b0 f 90 (x1 : Int32) (x2 : Int32) (x3 : Int32) (x4 : Int32) (x5 : Int32) (x6 : Int32) ((((8 : Int32) * x1) + x6) : Int32) h) else (gd (vp_in ((((8 : Int32) * x1) + x6) - (1 : Int32)) 80) (if (ea_i h (b0 + 7) (Int32.toNatClampNeg ((((8 : Int32) * x1) + x6) - (1 : Int32)))) = x2 then (some (((-1) : Int32), h)) else (gd (vp_in ((((8 : Int32) * x1) + x6) - (1 : Int32)) 80) (if (ea_i h (b0 + 9) (Int32.toNatClampNeg ((((8 : Int32) * x1) + x6) - (1 : Int32)))) < x3 then (gX9_add b0 f 90 (x1 : Int32) (x2 : Int32) (x3 : Int32) (x4 : Int32) (x5 : Int32) (x6 : Int32) ((((8 : Int32) * x1) + x6) : Int32) h) else (some (((-1) : Int32), h))))))) else
    if lbl = 90 then (gd (vp_in x7 80) (ea_let (ea_wi h (b0 + 7) (Int32.toNatClampNeg x7) x2) fun H15 => (gd (vp_in x7 80) (ea_let (ea_wi H15 (b0 + 8) (Int32.toNatClampNeg x7) x3) fun H18 => (gd (vp_in x7 80) (ea_let (ea_wi H18 (b0 + 9) (Int32.toNatClampNeg x7) x4) fun H21 => (gd (vp_in x7 80) (gd ((x5 = 0 ∨ x5 = 1)) (ea_let (ea_wi H21 (b0 + 10) (Int32.toNatClampNeg x7) x5) fun H25 => (gd (vp_in x1 10) (gd (vp_in x1 10) (ea_let (ea_wi H25 (b0 + 6) (Int32.toNatClampNeg x1) ((ea_i H25 (b0 + 6) (Int32.toNatClampNeg x1)) + (1 : Int32))) fun H29 => (some (x6, H29)))))))))))))) else none
theorem tX9_add {d : Nat} {b0 : Nat} {h0 : ea_H} (hd : 1 ≤ d) : ∀ (f lbl : Nat) (x1 : Int32) (x2 : Int32) (x3 : Int32) (x4 : Int32) (x5 : Int32) (x6 : Int32) (x7 : Int32) (h : ea_H) (r : Int32) (h' : ea_H), gX9_add b0 f lbl x1 x2 x3 x4 x5 x6 x7 h = some (r, h') → ShC b0 h → (lbl = 0 → ea_W mX9_add d h0 (some (vI r)) h' 0 [(0, vR (some (b0 + 5))), (1, vI x1), (2, vI x2), (3, vI x3), (4, vI x4), (5, vI x5)] [] h) ∧ (lbl = 48 → ea_W mX9_add d h0 (some (vI r)) h' 48 [(0, vR (some (b0 + 5))), (1, vI x1), (2, vI x2), (3, vI x3), (4, vI x4), (5, vI x5), (6, vI x6)] [] h) ∧ (lbl = 90 → ea_W mX9_add d h0 (some (vI r)) h' 90 [(0, vR (some (b0 + 5))), (1, vI x1), (2, vI x2), (3, vI x3), (4, vI x4), (5, vI x5), (6, vI x6), (7, vI x7)] [] h) := by
  intro f
  induction f with
  | zero => intro lbl x1 x2 x3 x4 x5 x6 x7 h r h' E; cases E
  | succ f ih =>
    intro lbl x1 x2 x3 x4 x5 x6 x7 h r h' E hs
    unfold gX9_add at E
    refine ⟨?_, ?_⟩
    · intro el
      subst el
      have E := (if_pos rfl).symm.trans E
      refine ea_aload_n (pc := 0) dX9_add_0 rfl 0 rfl ?_
      refine ea_getR (pc := 1) dX9_add_1 ec_9 (k := 1) (Nat.le_of_ble_eq_true rfl) rfl (Or.inl ew_180) (hs.1 5 (by decide)).1 (hs.1 5 (by decide)).2.1 (hs.2 5 1 rfl) ?_
      refine ea_iload_n (pc := 4) dX9_add_4 rfl 1 rfl ?_
      obtain ⟨z1, E⟩ := gd_some E
      refine ea_iald (pc := 5) dX9_add_5 (hs.1 6 (by decide)).1 (hs.1 6 (by decide)).2.1 (ea_vpl (hs.1 6 (by decide)).2.2 z1) ?_
      refine ea_istore (pc := 6) (lv' := [(0, vR (some (b0 + 5))), (1, vI x1), (2, vI x2), (3, vI x3), (4, vI x4), (5, vI x5), (6, vI (ea_i h (b0 + 6) (Int32.toNatClampNeg x1)))]) dX9_add_6 (Nat.le_of_ble_eq_true rfl) [1, 2, 3, 4, 5, 6, 0] rfl ?_
      refine ea_iload (pc := 8) dX9_add_8 6 rfl ?_
      refine ea_bipush (pc := 10) dX9_add_10 (v := 8) rfl ?_
      refine ea_icmp_ge (pc := 12) (tgt := 33) dX9_add_12 rfl (fun c7 => ?_) (fun c7 => ?_)
      · have E := (if_pos c7).symm.trans E
        refine ea_iconst (pc := 33) dX9_add_33 (v := (-1)) rfl ?_
        exact ea_iretO (pc := 34) dX9_add_34 rfl rfl E
      · have E := (if_neg c7).symm.trans E
        refine ea_iload_n (pc := 15) dX9_add_15 rfl 3 rfl ?_
        refine ea_if_lt (pc := 16) (tgt := 33) dX9_add_16 rfl (fun c6 => ?_) (fun c6 => ?_)
        · have E := (if_pos c6).symm.trans E
          refine ea_iconst (pc := 33) dX9_add_33 (v := (-1)) rfl ?_
          exact ea_iretO (pc := 34) dX9_add_34 rfl rfl E
        · have E := (if_neg c6).symm.trans E
          refine ea_iload (pc := 19) dX9_add_19 4 rfl ?_
          refine ea_iload_n (pc := 21) dX9_add_21 rfl 3 rfl ?_
          refine ea_icmp_lt (pc := 22) (tgt := 33) dX9_add_22 rfl (fun c5 => ?_) (fun c5 => ?_)
          · have E := (if_pos c5).symm.trans E
            refine ea_iconst (pc := 33) dX9_add_33 (v := (-1)) rfl ?_
            exact ea_iretO (pc := 34) dX9_add_34 rfl rfl E
          · have E := (if_neg c5).symm.trans E
            refine ea_iload (pc := 25) dX9_add_25 4 rfl ?_
            refine ea_sipush (pc := 27) dX9_add_27 (v := 2400) rfl ?_
            refine ea_icmp_le (pc := 30) (tgt := 35) dX9_add_30 rfl (fun c4 => ?_) (fun c4 => ?_)
            · have E := (if_pos c4).symm.trans E
              refine ea_iload (pc := 35) dX9_add_35 5 rfl ?_
              refine ea_if_eq (pc := 37) (tgt := 48) dX9_add_37 rfl (fun c3 => ?_) (fun c3 => ?_)
              · have E := (if_pos c3).symm.trans E
                exact ((ih 48 (x1 : Int32) (x2 : Int32) (x3 : Int32) (x4 : Int32) (x5 : Int32) ((ea_i h (b0 + 6) (Int32.toNatClampNeg x1)) : Int32) 0 h _ _ E hs).2.1 rfl)
              · have E := (if_neg c3).symm.trans E
                refine ea_iload_n (pc := 40) dX9_add_40 rfl 3 rfl ?_
                refine ea_iload (pc := 41) dX9_add_41 4 rfl ?_
                refine ea_icmp_eq (pc := 43) (tgt := 48) dX9_add_43 rfl (fun c2 => ?_) (fun c2 => ?_)
                · have E := (if_pos c2).symm.trans E
                  exact ((ih 48 (x1 : Int32) (x2 : Int32) (x3 : Int32) (x4 : Int32) (x5 : Int32) ((ea_i h (b0 + 6) (Int32.toNatClampNeg x1)) : Int32) 0 h _ _ E hs).2.1 rfl)
                · have E := (if_neg c2).symm.trans E
                  refine ea_iconst (pc := 46) dX9_add_46 (v := (-1)) rfl ?_
                  exact ea_iretO (pc := 47) dX9_add_47 rfl rfl E
            · have E := (if_neg c4).symm.trans E
              refine ea_iconst (pc := 33) dX9_add_33 (v := (-1)) rfl ?_
              exact ea_iretO (pc := 34) dX9_add_34 rfl rfl E
    refine ⟨?_, ?_⟩
    · intro el
      subst el
      have E := (if_neg (by decide)).symm.trans E
      have E := (if_pos rfl).symm.trans E
      refine ea_bipush (pc := 48) dX9_add_48 (v := 8) rfl ?_
      refine ea_iload_n (pc := 50) dX9_add_50 rfl 1 rfl ?_
      refine ea_imul (pc := 51) dX9_add_51 ?_
      refine ea_iload (pc := 52) dX9_add_52 6 rfl ?_
      refine ea_iadd (pc := 54) dX9_add_54 ?_
      refine ea_istore (pc := 55) (lv' := [(0, vR (some (b0 + 5))), (1, vI x1), (2, vI x2), (3, vI x3), (4, vI x4), (5, vI x5), (6, vI x6), (7, vI (((8 : Int32) * x1) + x6))]) dX9_add_55 (Nat.le_of_ble_eq_true rfl) [1, 2, 3, 4, 5, 6, 7, 0] rfl ?_
      refine ea_iload (pc := 57) dX9_add_57 6 rfl ?_
      refine ea_if_le (pc := 59) (tgt := 90) dX9_add_59 rfl (fun c12 => ?_) (fun c12 => ?_)
      · have E := (if_pos c12).symm.trans E
        exact ((ih 90 (x1 : Int32) (x2 : Int32) (x3 : Int32) (x4 : Int32) (x5 : Int32) (x6 : Int32) ((((8 : Int32) * x1) + x6) : Int32) h _ _ E hs).2.2 rfl)
      · have E := (if_neg c12).symm.trans E
        refine ea_aload_n (pc := 62) dX9_add_62 rfl 0 rfl ?_
        refine ea_getR (pc := 63) dX9_add_63 ec_9 (k := 2) (Nat.le_of_ble_eq_true rfl) rfl (Or.inl ew_184) (hs.1 5 (by decide)).1 (hs.1 5 (by decide)).2.1 (hs.2 5 2 rfl) ?_
        refine ea_iload (pc := 66) dX9_add_66 7 rfl ?_
        refine ea_iconst (pc := 68) dX9_add_68 (v := 1) rfl ?_
        refine ea_isub (pc := 69) dX9_add_69 ?_
        obtain ⟨z8, E⟩ := gd_some E
        refine ea_iald (pc := 70) dX9_add_70 (hs.1 7 (by decide)).1 (hs.1 7 (by decide)).2.1 (ea_vpl (hs.1 7 (by decide)).2.2 z8) ?_
        refine ea_iload_n (pc := 71) dX9_add_71 rfl 2 rfl ?_
        refine ea_icmp_eq (pc := 72) (tgt := 88) dX9_add_72 rfl (fun c11 => ?_) (fun c11 => ?_)
        · have E := (if_pos c11).symm.trans E
          refine ea_iconst (pc := 88) dX9_add_88 (v := (-1)) rfl ?_
          exact ea_iretO (pc := 89) dX9_add_89 rfl rfl E
        · have E := (if_neg c11).symm.trans E
          refine ea_iload_n (pc := 75) dX9_add_75 rfl 3 rfl ?_
          refine ea_aload_n (pc := 76) dX9_add_76 rfl 0 rfl ?_
          refine ea_getR (pc := 77) dX9_add_77 ec_9 (k := 4) (Nat.le_of_ble_eq_true rfl) rfl (Or.inl ew_191) (hs.1 5 (by decide)).1 (hs.1 5 (by decide)).2.1 (hs.2 5 4 rfl) ?_
          refine ea_iload (pc := 80) dX9_add_80 7 rfl ?_
          refine ea_iconst (pc := 82) dX9_add_82 (v := 1) rfl ?_
          refine ea_isub (pc := 83) dX9_add_83 ?_
          obtain ⟨z9, E⟩ := gd_some E
          refine ea_iald (pc := 84) dX9_add_84 (hs.1 9 (by decide)).1 (hs.1 9 (by decide)).2.1 (ea_vpl (hs.1 9 (by decide)).2.2 z9) ?_
          refine ea_icmp_gt (pc := 85) (tgt := 90) dX9_add_85 rfl (fun c10 => ?_) (fun c10 => ?_)
          · have E := (if_pos c10).symm.trans E
            exact ((ih 90 (x1 : Int32) (x2 : Int32) (x3 : Int32) (x4 : Int32) (x5 : Int32) (x6 : Int32) ((((8 : Int32) * x1) + x6) : Int32) h _ _ E hs).2.2 rfl)
          · have E := (if_neg c10).symm.trans E
            refine ea_iconst (pc := 88) dX9_add_88 (v := (-1)) rfl ?_
            exact ea_iretO (pc := 89) dX9_add_89 rfl rfl E
    intro el
    subst el
    have E := (if_neg (by decide)).symm.trans E
    have E := (if_neg (by decide)).symm.trans E
    have E := (if_pos rfl).symm.trans E
    refine ea_aload_n (pc := 90) dX9_add_90 rfl 0 rfl ?_
    refine ea_getR (pc := 91) dX9_add_91 ec_9 (k := 2) (Nat.le_of_ble_eq_true rfl) rfl (Or.inl ew_184) (hs.1 5 (by decide)).1 (hs.1 5 (by decide)).2.1 (hs.2 5 2 rfl) ?_
    refine ea_iload (pc := 94) dX9_add_94 7 rfl ?_
    refine ea_iload_n (pc := 96) dX9_add_96 rfl 2 rfl ?_
    obtain ⟨z13, E⟩ := gd_some E
    refine ea_iast (pc := 97) dX9_add_97 (hs.1 7 (by decide)).1 (hs.1 7 (by decide)).2.1 (ea_vpl (hs.1 7 (by decide)).2.2 z13) ?_
    have hs14 : ShC b0 (ea_wi h (b0 + 7) (Int32.toNatClampNeg x7) x2) := ShC_wi hs
    obtain ⟨H15, eH15, E⟩ := let_some E
    refine ea_nm eH15 ?_
    have hsH15 : ShC b0 H15 := by rw [eH15]; exact hs14
    refine ea_aload_n (pc := 98) dX9_add_98 rfl 0 rfl ?_
    refine ea_getR (pc := 99) dX9_add_99 ec_9 (k := 3) (Nat.le_of_ble_eq_true rfl) rfl (Or.inl ew_188) (hsH15.1 5 (by decide)).1 (hsH15.1 5 (by decide)).2.1 (hsH15.2 5 3 rfl) ?_
    refine ea_iload (pc := 102) dX9_add_102 7 rfl ?_
    refine ea_iload_n (pc := 104) dX9_add_104 rfl 3 rfl ?_
    obtain ⟨z16, E⟩ := gd_some E
    refine ea_iast (pc := 105) dX9_add_105 (hsH15.1 8 (by decide)).1 (hsH15.1 8 (by decide)).2.1 (ea_vpl (hsH15.1 8 (by decide)).2.2 z16) ?_
    have hs17 : ShC b0 (ea_wi H15 (b0 + 8) (Int32.toNatClampNeg x7) x3) := ShC_wi hsH15
    obtain ⟨H18, eH18, E⟩ := let_some E
    refine ea_nm eH18 ?_
    have hsH18 : ShC b0 H18 := by rw [eH18]; exact hs17
    refine ea_aload_n (pc := 106) dX9_add_106 rfl 0 rfl ?_
    refine ea_getR (pc := 107) dX9_add_107 ec_9 (k := 4) (Nat.le_of_ble_eq_true rfl) rfl (Or.inl ew_191) (hsH18.1 5 (by decide)).1 (hsH18.1 5 (by decide)).2.1 (hsH18.2 5 4 rfl) ?_
    refine ea_iload (pc := 110) dX9_add_110 7 rfl ?_
    refine ea_iload (pc := 112) dX9_add_112 4 rfl ?_
    obtain ⟨z19, E⟩ := gd_some E
    refine ea_iast (pc := 114) dX9_add_114 (hsH18.1 9 (by decide)).1 (hsH18.1 9 (by decide)).2.1 (ea_vpl (hsH18.1 9 (by decide)).2.2 z19) ?_
    have hs20 : ShC b0 (ea_wi H18 (b0 + 9) (Int32.toNatClampNeg x7) x4) := ShC_wi hsH18
    obtain ⟨H21, eH21, E⟩ := let_some E
    refine ea_nm eH21 ?_
    have hsH21 : ShC b0 H21 := by rw [eH21]; exact hs20
    refine ea_aload_n (pc := 115) dX9_add_115 rfl 0 rfl ?_
    refine ea_getR (pc := 116) dX9_add_116 ec_9 (k := 5) (Nat.le_of_ble_eq_true rfl) rfl (Or.inl ew_194) (hsH21.1 5 (by decide)).1 (hsH21.1 5 (by decide)).2.1 (hsH21.2 5 5 rfl) ?_
    refine ea_iload (pc := 119) dX9_add_119 7 rfl ?_
    refine ea_iload (pc := 121) dX9_add_121 5 rfl ?_
    obtain ⟨z22, E⟩ := gd_some E
    obtain ⟨z24, E⟩ := gd_some E
    refine ea_zast (pc := 123) dX9_add_123 (y := x5) (ea_bn z24) (hsH21.1 10 (by decide)).1 (hsH21.1 10 (by decide)).2.1 (ea_vpl (hsH21.1 10 (by decide)).2.2 z22) ?_
    have hs23 : ShC b0 (ea_wi H21 (b0 + 10) (Int32.toNatClampNeg x7) x5) := ShC_wi hsH21
    obtain ⟨H25, eH25, E⟩ := let_some E
    refine ea_nm eH25 ?_
    have hsH25 : ShC b0 H25 := by rw [eH25]; exact hs23
    refine ea_aload_n (pc := 124) dX9_add_124 rfl 0 rfl ?_
    refine ea_getR (pc := 125) dX9_add_125 ec_9 (k := 1) (Nat.le_of_ble_eq_true rfl) rfl (Or.inl ew_180) (hsH25.1 5 (by decide)).1 (hsH25.1 5 (by decide)).2.1 (hsH25.2 5 1 rfl) ?_
    refine ea_iload_n (pc := 128) dX9_add_128 rfl 1 rfl ?_
    refine ea_dup2 (pc := 129) dX9_add_129 rfl rfl ?_
    obtain ⟨z26, E⟩ := gd_some E
    refine ea_iald (pc := 130) dX9_add_130 (hsH25.1 6 (by decide)).1 (hsH25.1 6 (by decide)).2.1 (ea_vpl (hsH25.1 6 (by decide)).2.2 z26) ?_
    refine ea_iconst (pc := 131) dX9_add_131 (v := 1) rfl ?_
    refine ea_iadd (pc := 132) dX9_add_132 ?_
    obtain ⟨z27, E⟩ := gd_some E
    refine ea_iast (pc := 133) dX9_add_133 (hsH25.1 6 (by decide)).1 (hsH25.1 6 (by decide)).2.1 (ea_vpl (hsH25.1 6 (by decide)).2.2 z27) ?_
    have hs28 : ShC b0 (ea_wi H25 (b0 + 6) (Int32.toNatClampNeg x1) ((ea_i H25 (b0 + 6) (Int32.toNatClampNeg x1)) + (1 : Int32))) := ShC_wi hsH25
    obtain ⟨H29, eH29, E⟩ := let_some E
    refine ea_nm eH29 ?_
    have hsH29 : ShC b0 H29 := by rw [eH29]; exact hs28
    refine ea_iload (pc := 134) dX9_add_134 6 rfl ?_
    exact ea_iretO (pc := 136) dX9_add_136 rfl rfl E
noncomputable def qX9_add (b0 : Nat) (x1 : Int32) (x2 : Int32) (x3 : Int32) (x4 : Int32) (x5 : Int32) (h : ea_H) : Option (Int32 × ea_H) := gX9_add b0 1000000000 0 x1 x2 x3 x4 x5 0 0 h
def okX9_add (b0 : Nat) (x1 : Int32) (x2 : Int32) (x3 : Int32) (x4 : Int32) (x5 : Int32) (h : ea_H) : Prop := ∃ x, qX9_add b0 x1 x2 x3 x4 x5 h = some x
noncomputable def vX9_add (b0 : Nat) (x1 : Int32) (x2 : Int32) (x3 : Int32) (x4 : Int32) (x5 : Int32) (h : ea_H) : Int32 := ((qX9_add b0 x1 x2 x3 x4 x5 h).getD (0, h)).1
noncomputable def wX9_add (b0 : Nat) (x1 : Int32) (x2 : Int32) (x3 : Int32) (x4 : Int32) (x5 : Int32) (h : ea_H) : ea_H := ((qX9_add b0 x1 x2 x3 x4 x5 h).getD (0, h)).2
theorem sX9_add {d : Nat} {b0 : Nat} {x1 : Int32} {x2 : Int32} {x3 : Int32} {x4 : Int32} {x5 : Int32} {h : ea_H} (hd : 1 ≤ d) (hs : ShC b0 h) (K : okX9_add b0 x1 x2 x3 x4 x5 h) : ea_Met mX9_add d [vR (some (b0 + 5)), vI x1, vI x2, vI x3, vI x4, vI x5] h (some (vI (vX9_add b0 x1 x2 x3 x4 x5 h))) (wX9_add b0 x1 x2 x3 x4 x5 h) := by
  obtain ⟨⟨x, y⟩, K⟩ := K
  unfold wX9_add vX9_add
  rw [K]
  unfold qX9_add at K
  exact ea_enter rfl (Nat.le_of_ble_eq_true rfl) ((tX9_add hd 1000000000 0 x1 x2 x3 x4 x5 0 0 h x y K hs).1 rfl)
theorem zX9_add {b0 : Nat} : ∀ (f lbl : Nat) (x1 : Int32) (x2 : Int32) (x3 : Int32) (x4 : Int32) (x5 : Int32) (x6 : Int32) (x7 : Int32) (h : ea_H) (r : Int32) (h' : ea_H), gX9_add b0 f lbl x1 x2 x3 x4 x5 x6 x7 h = some (r, h') → ShC b0 h → ShC b0 h' := by
  intro f
  induction f with
  | zero => intro lbl x1 x2 x3 x4 x5 x6 x7 h r h' E; cases E
  | succ f ih =>
    intro lbl x1 x2 x3 x4 x5 x6 x7 h r h' E hs
    unfold gX9_add at E
    by_cases el0 : lbl = 0
    · have E := (if_pos el0).symm.trans E
      obtain ⟨z1, E⟩ := gd_some E
      by_cases c7 : (8 : Int32) ≤ (ea_i h (b0 + 6) (Int32.toNatClampNeg x1))
      · have E := (if_pos c7).symm.trans E
        exact ea_shO E hs
      have E := (if_neg c7).symm.trans E
      by_cases c6 : x3 < (0 : Int32)
      · have E := (if_pos c6).symm.trans E
        exact ea_shO E hs
      have E := (if_neg c6).symm.trans E
      by_cases c5 : x4 < x3
      · have E := (if_pos c5).symm.trans E
        exact ea_shO E hs
      have E := (if_neg c5).symm.trans E
      by_cases c4 : x4 ≤ (2400 : Int32)
      · have E := (if_pos c4).symm.trans E
        by_cases c3 : x5 = (0 : Int32)
        · have E := (if_pos c3).symm.trans E
          exact ih 48 (x1 : Int32) (x2 : Int32) (x3 : Int32) (x4 : Int32) (x5 : Int32) ((ea_i h (b0 + 6) (Int32.toNatClampNeg x1)) : Int32) 0 h _ _ E hs
        have E := (if_neg c3).symm.trans E
        by_cases c2 : x3 = x4
        · have E := (if_pos c2).symm.trans E
          exact ih 48 (x1 : Int32) (x2 : Int32) (x3 : Int32) (x4 : Int32) (x5 : Int32) ((ea_i h (b0 + 6) (Int32.toNatClampNeg x1)) : Int32) 0 h _ _ E hs
        have E := (if_neg c2).symm.trans E
        exact ea_shO E hs
      have E := (if_neg c4).symm.trans E
      exact ea_shO E hs
    have E := (if_neg el0).symm.trans E
    by_cases el1 : lbl = 48
    · have E := (if_pos el1).symm.trans E
      by_cases c12 : x6 ≤ (0 : Int32)
      · have E := (if_pos c12).symm.trans E
        exact ih 90 (x1 : Int32) (x2 : Int32) (x3 : Int32) (x4 : Int32) (x5 : Int32) (x6 : Int32) ((((8 : Int32) * x1) + x6) : Int32) h _ _ E hs
      have E := (if_neg c12).symm.trans E
      obtain ⟨z8, E⟩ := gd_some E
      by_cases c11 : (ea_i h (b0 + 7) (Int32.toNatClampNeg ((((8 : Int32) * x1) + x6) - (1 : Int32)))) = x2
      · have E := (if_pos c11).symm.trans E
        exact ea_shO E hs
      have E := (if_neg c11).symm.trans E
      obtain ⟨z9, E⟩ := gd_some E
      by_cases c10 : (ea_i h (b0 + 9) (Int32.toNatClampNeg ((((8 : Int32) * x1) + x6) - (1 : Int32)))) < x3
      · have E := (if_pos c10).symm.trans E
        exact ih 90 (x1 : Int32) (x2 : Int32) (x3 : Int32) (x4 : Int32) (x5 : Int32) (x6 : Int32) ((((8 : Int32) * x1) + x6) : Int32) h _ _ E hs
      have E := (if_neg c10).symm.trans E
      exact ea_shO E hs
    have E := (if_neg el1).symm.trans E
    by_cases el2 : lbl = 90
    · have E := (if_pos el2).symm.trans E
      obtain ⟨z13, E⟩ := gd_some E
      obtain ⟨H15, eH15, E⟩ := let_some E
      have hsH15 : ShC b0 H15 := by rw [eH15]; exact (ShC_wi hs)
      obtain ⟨z16, E⟩ := gd_some E
      obtain ⟨H18, eH18, E⟩ := let_some E
      have hsH18 : ShC b0 H18 := by rw [eH18]; exact (ShC_wi hsH15)
      obtain ⟨z19, E⟩ := gd_some E
      obtain ⟨H21, eH21, E⟩ := let_some E
      have hsH21 : ShC b0 H21 := by rw [eH21]; exact (ShC_wi hsH18)
      obtain ⟨z22, E⟩ := gd_some E
      obtain ⟨z24, E⟩ := gd_some E
      obtain ⟨H25, eH25, E⟩ := let_some E
      have hsH25 : ShC b0 H25 := by rw [eH25]; exact (ShC_wi hsH21)
      obtain ⟨z26, E⟩ := gd_some E
      obtain ⟨z27, E⟩ := gd_some E
      obtain ⟨H29, eH29, E⟩ := let_some E
      have hsH29 : ShC b0 H29 := by rw [eH29]; exact (ShC_wi hsH25)
      exact ea_shO E hsH29
    have E := (if_neg el2).symm.trans E
    cases E
theorem shX9_add {b0 : Nat} {x1 : Int32} {x2 : Int32} {x3 : Int32} {x4 : Int32} {x5 : Int32} {h : ea_H} (hs : ShC b0 h) : ShC b0 (wX9_add b0 x1 x2 x3 x4 x5 h) := by
  unfold wX9_add
  cases K : qX9_add b0 x1 x2 x3 x4 x5 h with
  | none => exact hs
  | some x => obtain ⟨x, y⟩ := x; unfold qX9_add at K; exact zX9_add _ _ _ _ _ _ _ _ _ _ _ _ K hs
noncomputable def gX9_goneFrom (b0 : Nat) : Nat → Nat → Int32 → Int32 → Int32 → Int32 → Int32 → ea_H → Option (Int32 × ea_H)
  | 0, _, _, _, _, _, _, _ => none
  | f + 1, lbl, x1, x2, x3, x4, x5, h =>
    if lbl = 0 then (gX9_goneFrom b0 f 6 (x1 : Int32) (x2 : Int32) (x3 : Int32) ((-1) : Int32) (0 : Int32) h) else
    if lbl = 6 then (gd (vp_in x1 10) (if ((ea_i h (b0 + 6) (Int32.toNatClampNeg x1)) - (1 : Int32)) ≤ x5 then (some (x4, h)) else (gd ((okX9_goesAt b0 (x1 : Int32) (x2 : Int32) (x5 : Int32) h)) (if x3 < (vX9_goesAt b0 (x1 : Int32) (x2 : Int32) (x5 : Int32) h) then (gX9_goneFrom b0 f 6 (x1 : Int32) (x2 : Int32) (x3 : Int32) (x4 : Int32) ((x5 + (1 : Int32)) : Int32) h) else (gX9_goneFrom b0 f 6 (x1 : Int32) (x2 : Int32) (x3 : Int32) (x5 : Int32) ((x5 + (1 : Int32)) : Int32) h))))) else none
theorem tX9_goneFrom {d : Nat} {b0 : Nat} {h0 : ea_H} (hd : 2 ≤ d) : ∀ (f lbl : Nat) (x1 : Int32) (x2 : Int32) (x3 : Int32) (x4 : Int32) (x5 : Int32) (h : ea_H) (r : Int32) (h' : ea_H), gX9_goneFrom b0 f lbl x1 x2 x3 x4 x5 h = some (r, h') → ShC b0 h → (lbl = 0 → ea_W mX9_goneFrom d h0 (some (vI r)) h' 0 [(0, vR (some (b0 + 5))), (1, vI x1), (2, vI x2), (3, vI x3)] [] h) ∧ (lbl = 6 → ea_W mX9_goneFrom d h0 (some (vI r)) h' 6 [(0, vR (some (b0 + 5))), (1, vI x1), (2, vI x2), (3, vI x3), (4, vI x4), (5, vI x5)] [] h) := by
  intro f
  induction f with
  | zero => intro lbl x1 x2 x3 x4 x5 h r h' E; cases E
  | succ f ih =>
    intro lbl x1 x2 x3 x4 x5 h r h' E hs
    unfold gX9_goneFrom at E
    refine ⟨?_, ?_⟩
    · intro el
      subst el
      have E := (if_pos rfl).symm.trans E
      refine ea_iconst (pc := 0) dX9_goneFrom_0 (v := (-1)) rfl ?_
      refine ea_istore (pc := 1) (lv' := [(0, vR (some (b0 + 5))), (1, vI x1), (2, vI x2), (3, vI x3), (4, vI (-1))]) dX9_goneFrom_1 (Nat.le_of_ble_eq_true rfl) [1, 2, 3, 4, 0] rfl ?_
      refine ea_iconst (pc := 3) dX9_goneFrom_3 (v := 0) rfl ?_
      refine ea_istore (pc := 4) (lv' := [(0, vR (some (b0 + 5))), (1, vI x1), (2, vI x2), (3, vI x3), (4, vI (-1)), (5, vI 0)]) dX9_goneFrom_4 (Nat.le_of_ble_eq_true rfl) [1, 2, 3, 4, 5, 0] rfl ?_
      exact ((ih 6 (x1 : Int32) (x2 : Int32) (x3 : Int32) ((-1) : Int32) (0 : Int32) h _ _ E hs).2 rfl)
    intro el
    subst el
    have E := (if_neg (by decide)).symm.trans E
    have E := (if_pos rfl).symm.trans E
    refine ea_iload (pc := 6) dX9_goneFrom_6 5 rfl ?_
    refine ea_aload_n (pc := 8) dX9_goneFrom_8 rfl 0 rfl ?_
    refine ea_getR (pc := 9) dX9_goneFrom_9 ec_9 (k := 1) (Nat.le_of_ble_eq_true rfl) rfl (Or.inl ew_180) (hs.1 5 (by decide)).1 (hs.1 5 (by decide)).2.1 (hs.2 5 1 rfl) ?_
    refine ea_iload_n (pc := 12) dX9_goneFrom_12 rfl 1 rfl ?_
    obtain ⟨z1, E⟩ := gd_some E
    refine ea_iald (pc := 13) dX9_goneFrom_13 (hs.1 6 (by decide)).1 (hs.1 6 (by decide)).2.1 (ea_vpl (hs.1 6 (by decide)).2.2 z1) ?_
    refine ea_iconst (pc := 14) dX9_goneFrom_14 (v := 1) rfl ?_
    refine ea_isub (pc := 15) dX9_goneFrom_15 ?_
    refine ea_icmp_ge (pc := 16) (tgt := 41) dX9_goneFrom_16 rfl (fun c4 => ?_) (fun c4 => ?_)
    · have E := (if_pos c4).symm.trans E
      refine ea_iload (pc := 41) dX9_goneFrom_41 4 rfl ?_
      exact ea_iretO (pc := 43) dX9_goneFrom_43 rfl rfl E
    · have E := (if_neg c4).symm.trans E
      refine ea_aload_n (pc := 19) dX9_goneFrom_19 rfl 0 rfl ?_
      refine ea_iload_n (pc := 20) dX9_goneFrom_20 rfl 1 rfl ?_
      refine ea_iload_n (pc := 21) dX9_goneFrom_21 rfl 2 rfl ?_
      refine ea_iload (pc := 22) dX9_goneFrom_22 5 rfl ?_
      obtain ⟨z2, E⟩ := gd_some E
      refine ea_callV (pc := 24) (d' := d - 1) (As := [vI x1, vI x2, vI x5]) (st := []) dX9_goneFrom_24 kX9_goesAt (sX9_goesAt (d := d - 1) (by omega) hs z2) (by omega) rfl (Nat.le_of_ble_eq_true rfl) ew_1157 ew_577 ew_578 (ci := 9) rfl (by decide) (hs.1 5 (by decide)).1 (hs.1 5 (by decide)).2.1 ?_
      refine ea_iload_n (pc := 27) dX9_goneFrom_27 rfl 3 rfl ?_
      refine ea_icmp_gt (pc := 28) (tgt := 35) dX9_goneFrom_28 rfl (fun c3 => ?_) (fun c3 => ?_)
      · have E := (if_pos c3).symm.trans E
        refine ea_iinc (pc := 35) (v := 1) (lv' := [(0, vR (some (b0 + 5))), (1, vI x1), (2, vI x2), (3, vI x3), (4, vI x4), (5, vI (x5 + (1 : Int32)))]) dX9_goneFrom_35 5 rfl rfl (Nat.le_of_ble_eq_true rfl) [1, 2, 3, 4, 5, 0] rfl ?_
        refine ea_goto (pc := 38) (tgt := 6) dX9_goneFrom_38 rfl ?_
        exact ((ih 6 (x1 : Int32) (x2 : Int32) (x3 : Int32) (x4 : Int32) ((x5 + (1 : Int32)) : Int32) h _ _ E hs).2 rfl)
      · have E := (if_neg c3).symm.trans E
        refine ea_iload (pc := 31) dX9_goneFrom_31 5 rfl ?_
        refine ea_istore (pc := 33) (lv' := [(0, vR (some (b0 + 5))), (1, vI x1), (2, vI x2), (3, vI x3), (4, vI x5), (5, vI x5)]) dX9_goneFrom_33 (Nat.le_of_ble_eq_true rfl) [1, 2, 3, 4, 0, 5] rfl ?_
        refine ea_iinc (pc := 35) (v := 1) (lv' := [(0, vR (some (b0 + 5))), (1, vI x1), (2, vI x2), (3, vI x3), (4, vI x5), (5, vI (x5 + (1 : Int32)))]) dX9_goneFrom_35 5 rfl rfl (Nat.le_of_ble_eq_true rfl) [1, 2, 3, 4, 5, 0] rfl ?_
        refine ea_goto (pc := 38) (tgt := 6) dX9_goneFrom_38 rfl ?_
        exact ((ih 6 (x1 : Int32) (x2 : Int32) (x3 : Int32) (x5 : Int32) ((x5 + (1 : Int32)) : Int32) h _ _ E hs).2 rfl)
noncomputable def qX9_goneFrom (b0 : Nat) (x1 : Int32) (x2 : Int32) (x3 : Int32) (h : ea_H) : Option (Int32 × ea_H) := gX9_goneFrom b0 1000000000 0 x1 x2 x3 0 0 h
def okX9_goneFrom (b0 : Nat) (x1 : Int32) (x2 : Int32) (x3 : Int32) (h : ea_H) : Prop := ∃ x, qX9_goneFrom b0 x1 x2 x3 h = some x
noncomputable def vX9_goneFrom (b0 : Nat) (x1 : Int32) (x2 : Int32) (x3 : Int32) (h : ea_H) : Int32 := ((qX9_goneFrom b0 x1 x2 x3 h).getD (0, h)).1
noncomputable def wX9_goneFrom (b0 : Nat) (x1 : Int32) (x2 : Int32) (x3 : Int32) (h : ea_H) : ea_H := ((qX9_goneFrom b0 x1 x2 x3 h).getD (0, h)).2
theorem sX9_goneFrom {d : Nat} {b0 : Nat} {x1 : Int32} {x2 : Int32} {x3 : Int32} {h : ea_H} (hd : 2 ≤ d) (hs : ShC b0 h) (K : okX9_goneFrom b0 x1 x2 x3 h) : ea_Met mX9_goneFrom d [vR (some (b0 + 5)), vI x1, vI x2, vI x3] h (some (vI (vX9_goneFrom b0 x1 x2 x3 h))) (wX9_goneFrom b0 x1 x2 x3 h) := by
  obtain ⟨⟨x, y⟩, K⟩ := K
  unfold wX9_goneFrom vX9_goneFrom
  rw [K]
  unfold qX9_goneFrom at K
  exact ea_enter rfl (Nat.le_of_ble_eq_true rfl) ((tX9_goneFrom hd 1000000000 0 x1 x2 x3 0 0 h x y K hs).1 rfl)
theorem zX9_goneFrom {b0 : Nat} : ∀ (f lbl : Nat) (x1 : Int32) (x2 : Int32) (x3 : Int32) (x4 : Int32) (x5 : Int32) (h : ea_H) (r : Int32) (h' : ea_H), gX9_goneFrom b0 f lbl x1 x2 x3 x4 x5 h = some (r, h') → ShC b0 h → ShC b0 h' := by
  intro f
  induction f with
  | zero => intro lbl x1 x2 x3 x4 x5 h r h' E; cases E
  | succ f ih =>
    intro lbl x1 x2 x3 x4 x5 h r h' E hs
    unfold gX9_goneFrom at E
    by_cases el0 : lbl = 0
    · have E := (if_pos el0).symm.trans E
      exact ih 6 (x1 : Int32) (x2 : Int32) (x3 : Int32) ((-1) : Int32) (0 : Int32) h _ _ E hs
    have E := (if_neg el0).symm.trans E
    by_cases el1 : lbl = 6
    · have E := (if_pos el1).symm.trans E
      obtain ⟨z1, E⟩ := gd_some E
      by_cases c4 : ((ea_i h (b0 + 6) (Int32.toNatClampNeg x1)) - (1 : Int32)) ≤ x5
      · have E := (if_pos c4).symm.trans E
        exact ea_shO E hs
      have E := (if_neg c4).symm.trans E
      obtain ⟨z2, E⟩ := gd_some E
      by_cases c3 : x3 < (vX9_goesAt b0 (x1 : Int32) (x2 : Int32) (x5 : Int32) h)
      · have E := (if_pos c3).symm.trans E
        exact ih 6 (x1 : Int32) (x2 : Int32) (x3 : Int32) (x4 : Int32) ((x5 + (1 : Int32)) : Int32) h _ _ E hs
      have E := (if_neg c3).symm.trans E
      exact ih 6 (x1 : Int32) (x2 : Int32) (x3 : Int32) (x5 : Int32) ((x5 + (1 : Int32)) : Int32) h _ _ E hs
    have E := (if_neg el1).symm.trans E
    cases E
theorem shX9_goneFrom {b0 : Nat} {x1 : Int32} {x2 : Int32} {x3 : Int32} {h : ea_H} (hs : ShC b0 h) : ShC b0 (wX9_goneFrom b0 x1 x2 x3 h) := by
  unfold wX9_goneFrom
  cases K : qX9_goneFrom b0 x1 x2 x3 h with
  | none => exact hs
  | some x => obtain ⟨x, y⟩ := x; unfold qX9_goneFrom at K; exact zX9_goneFrom _ _ _ _ _ _ _ _ _ _ K hs
noncomputable def gX10_firstBehind (b0 : Nat) : Nat → Nat → Int32 → Int32 → ea_H → Option (Int32 × ea_H)
  | 0, _, _, _, _ => none
  | f + 1, lbl, x1, x2, h =>
    if lbl = 0 then (gX10_firstBehind b0 f 2 (x1 : Int32) (0 : Int32) h) else
    if lbl = 2 then (if (ea_i h (b0 + 13) 1) ≤ x2 then (some ((ea_i h (b0 + 13) 1), h)) else (gd ((okX10_keyAt b0 (x2 : Int32) h)) (if (vX10_minuteIn ((vX10_keyAt b0 (x2 : Int32) h) : Int32) h) ≤ x1 then (gX10_firstBehind b0 f 2 (x1 : Int32) ((x2 + (1 : Int32)) : Int32) h) else (some (x2, h))))) else none
theorem tX10_firstBehind {d : Nat} {b0 : Nat} {h0 : ea_H} (hd : 2 ≤ d) : ∀ (f lbl : Nat) (x1 : Int32) (x2 : Int32) (h : ea_H) (r : Int32) (h' : ea_H), gX10_firstBehind b0 f lbl x1 x2 h = some (r, h') → ShC b0 h → (lbl = 0 → ea_W mX10_firstBehind d h0 (some (vI r)) h' 0 [(0, vR (some (b0 + 13))), (1, vI x1)] [] h) ∧ (lbl = 2 → ea_W mX10_firstBehind d h0 (some (vI r)) h' 2 [(0, vR (some (b0 + 13))), (1, vI x1), (2, vI x2)] [] h) := by
  intro f
  induction f with
  | zero => intro lbl x1 x2 h r h' E; cases E
  | succ f ih =>
    intro lbl x1 x2 h r h' E hs
    unfold gX10_firstBehind at E
    refine ⟨?_, ?_⟩
    · intro el
      subst el
      have E := (if_pos rfl).symm.trans E
      refine ea_iconst (pc := 0) dX10_firstBehind_0 (v := 0) rfl ?_
      refine ea_istore_n (pc := 1) (lv' := [(0, vR (some (b0 + 13))), (1, vI x1), (2, vI 0)]) dX10_firstBehind_1 rfl (Nat.le_of_ble_eq_true rfl) [1, 2, 0] rfl ?_
      exact ((ih 2 (x1 : Int32) (0 : Int32) h _ _ E hs).2 rfl)
    intro el
    subst el
    have E := (if_neg (by decide)).symm.trans E
    have E := (if_pos rfl).symm.trans E
    refine ea_iload_n (pc := 2) dX10_firstBehind_2 rfl 2 rfl ?_
    refine ea_aload_n (pc := 3) dX10_firstBehind_3 rfl 0 rfl ?_
    refine ea_getI (pc := 4) dX10_firstBehind_4 ec_10 (k := 1) (Nat.le_of_ble_eq_true rfl) rfl (Or.inl ew_227) (hs.1 13 (by decide)).1 (hs.1 13 (by decide)).2.1 ?_
    refine ea_icmp_ge (pc := 7) (tgt := 30) dX10_firstBehind_7 rfl (fun c4 => ?_) (fun c4 => ?_)
    · have E := (if_pos c4).symm.trans E
      refine ea_aload_n (pc := 30) dX10_firstBehind_30 rfl 0 rfl ?_
      refine ea_getI (pc := 31) dX10_firstBehind_31 ec_10 (k := 1) (Nat.le_of_ble_eq_true rfl) rfl (Or.inl ew_227) (hs.1 13 (by decide)).1 (hs.1 13 (by decide)).2.1 ?_
      exact ea_iretO (pc := 34) dX10_firstBehind_34 rfl rfl E
    · have E := (if_neg c4).symm.trans E
      refine ea_aload_n (pc := 10) dX10_firstBehind_10 rfl 0 rfl ?_
      refine ea_iload_n (pc := 11) dX10_firstBehind_11 rfl 2 rfl ?_
      obtain ⟨z1, E⟩ := gd_some E
      refine ea_callV (pc := 12) (d' := d - 1) (As := [vI x2]) (st := []) dX10_firstBehind_12 kX10_keyAt (sX10_keyAt (d := d - 1) (by omega) hs z1) (by omega) rfl (Nat.le_of_ble_eq_true rfl) ew_635 ew_636 ew_637 (ci := 10) rfl (by decide) (hs.1 13 (by decide)).1 (hs.1 13 (by decide)).2.1 ?_
      refine ea_callS (pc := 15) (d' := d - 1) (As := [vI (vX10_keyAt b0 (x2 : Int32) h)]) (st := []) dX10_firstBehind_15 kX10_minuteIn (sX10_minuteIn (d := d - 1) (by omega)) (by omega) rfl (Nat.le_of_ble_eq_true rfl) ew_602 ew_603 ?_
      refine ea_iload_n (pc := 18) dX10_firstBehind_18 rfl 1 rfl ?_
      refine ea_icmp_le (pc := 19) (tgt := 24) dX10_firstBehind_19 rfl (fun c3 => ?_) (fun c3 => ?_)
      · have E := (if_pos c3).symm.trans E
        refine ea_iinc (pc := 24) (v := 1) (lv' := [(0, vR (some (b0 + 13))), (1, vI x1), (2, vI (x2 + (1 : Int32)))]) dX10_firstBehind_24 2 rfl rfl (Nat.le_of_ble_eq_true rfl) [1, 2, 0] rfl ?_
        refine ea_goto (pc := 27) (tgt := 2) dX10_firstBehind_27 rfl ?_
        exact ((ih 2 (x1 : Int32) ((x2 + (1 : Int32)) : Int32) h _ _ E hs).2 rfl)
      · have E := (if_neg c3).symm.trans E
        refine ea_iload_n (pc := 22) dX10_firstBehind_22 rfl 2 rfl ?_
        exact ea_iretO (pc := 23) dX10_firstBehind_23 rfl rfl E
noncomputable def qX10_firstBehind (b0 : Nat) (x1 : Int32) (h : ea_H) : Option (Int32 × ea_H) := gX10_firstBehind b0 1000000000 0 x1 0 h
def okX10_firstBehind (b0 : Nat) (x1 : Int32) (h : ea_H) : Prop := ∃ x, qX10_firstBehind b0 x1 h = some x
noncomputable def vX10_firstBehind (b0 : Nat) (x1 : Int32) (h : ea_H) : Int32 := ((qX10_firstBehind b0 x1 h).getD (0, h)).1
noncomputable def wX10_firstBehind (b0 : Nat) (x1 : Int32) (h : ea_H) : ea_H := ((qX10_firstBehind b0 x1 h).getD (0, h)).2
theorem sX10_firstBehind {d : Nat} {b0 : Nat} {x1 : Int32} {h : ea_H} (hd : 2 ≤ d) (hs : ShC b0 h) (K : okX10_firstBehind b0 x1 h) : ea_Met mX10_firstBehind d [vR (some (b0 + 13)), vI x1] h (some (vI (vX10_firstBehind b0 x1 h))) (wX10_firstBehind b0 x1 h) := by
  obtain ⟨⟨x, y⟩, K⟩ := K
  unfold wX10_firstBehind vX10_firstBehind
  rw [K]
  unfold qX10_firstBehind at K
  exact ea_enter rfl (Nat.le_of_ble_eq_true rfl) ((tX10_firstBehind hd 1000000000 0 x1 0 h x y K hs).1 rfl)
theorem zX10_firstBehind {b0 : Nat} : ∀ (f lbl : Nat) (x1 : Int32) (x2 : Int32) (h : ea_H) (r : Int32) (h' : ea_H), gX10_firstBehind b0 f lbl x1 x2 h = some (r, h') → ShC b0 h → ShC b0 h' := by
  intro f
  induction f with
  | zero => intro lbl x1 x2 h r h' E; cases E
  | succ f ih =>
    intro lbl x1 x2 h r h' E hs
    unfold gX10_firstBehind at E
    by_cases el0 : lbl = 0
    · have E := (if_pos el0).symm.trans E
      exact ih 2 (x1 : Int32) (0 : Int32) h _ _ E hs
    have E := (if_neg el0).symm.trans E
    by_cases el1 : lbl = 2
    · have E := (if_pos el1).symm.trans E
      by_cases c4 : (ea_i h (b0 + 13) 1) ≤ x2
      · have E := (if_pos c4).symm.trans E
        exact ea_shO E hs
      have E := (if_neg c4).symm.trans E
      obtain ⟨z1, E⟩ := gd_some E
      by_cases c3 : (vX10_minuteIn ((vX10_keyAt b0 (x2 : Int32) h) : Int32) h) ≤ x1
      · have E := (if_pos c3).symm.trans E
        exact ih 2 (x1 : Int32) ((x2 + (1 : Int32)) : Int32) h _ _ E hs
      have E := (if_neg c3).symm.trans E
      exact ea_shO E hs
    have E := (if_neg el1).symm.trans E
    cases E
theorem shX10_firstBehind {b0 : Nat} {x1 : Int32} {h : ea_H} (hs : ShC b0 h) : ShC b0 (wX10_firstBehind b0 x1 h) := by
  unfold wX10_firstBehind
  cases K : qX10_firstBehind b0 x1 h with
  | none => exact hs
  | some x => obtain ⟨x, y⟩ := x; unfold qX10_firstBehind at K; exact zX10_firstBehind _ _ _ _ _ _ _ K hs
noncomputable def gX10_collect (b0 : Nat) : Nat → Nat → Int32 → Int32 → Int32 → Int32 → ea_H → Option (Unit × ea_H)
  | 0, _, _, _, _, _, _ => none
  | f + 1, lbl, x1, x2, x3, x4, h =>
    if lbl = 0 then (ea_let (ea_wi h (b0 + 13) 1 0) fun H2 => (gX10_collect b0 f 7 (0 : Int32) 0 0 0 H2)) else
    if lbl = 7 then (if (ea_i h (b0 + 5) 0) ≤ x1 then (some ((), h)) else (gX10_collect b0 f 20 (x1 : Int32) (0 : Int32) 0 0 h)) else
    if lbl = 20 then (if (7 : Int32) ≤ x2 then (gX10_collect b0 f 7 ((x1 + (1 : Int32)) : Int32) 0 0 0 h) else (gX10_collect b0 f 28 (x1 : Int32) (x2 : Int32) (0 : Int32) 0 h)) else
    if lbl = 28 then (gd (vp_in x1 10) (if (ea_i h (b0 + 6) (Int32.toNatClampNeg x1)) ≤ x3 then (gX10_collect b0 f 20 (x1 : Int32) ((x2 + (1 : Int32)) : Int32) 0 0 h) else (if x3 ≤ (0 : Int32) then (gX10_collect b0 f 73 (x1 : Int32) (x2 : Int32) (x3 : Int32) ((((x1 <<< ((6 : Int32) &&& 31)) ||| (x2 <<< ((3 : Int32) &&& 31))) ||| x3) : Int32) h) else (gd ((okX9_comesAt b0 (x1 : Int32) (x2 : Int32) (x3 : Int32) h)) (gd ((okX10_addKey b0 ((vX9_comesAt b0 (x1 : Int32) (x2 : Int32) (x3 : Int32) h) : Int32) ((((x1 <<< ((6 : Int32) &&& 31)) ||| (x2 <<< ((3 : Int32) &&& 31))) ||| x3) : Int32) h)) (ea_let (wX10_addKey b0 ((vX9_comesAt b0 (x1 : Int32) (x2 : Int32) (x3 : Int32) h) : Int32) ((((x1 <<< ((6 : Int32) &&& 31)) ||| (x2 <<< ((3 : Int32) &&& 31))) ||| x3) : Int32) h) fun H9 => (gX10_collect b0 f 73 (x1 : Int32) (x2 : Int32) (x3 : Int32) ((((x1 <<< ((6 : Int32) &&& 31)) ||| (x2 <<< ((3 : Int32) &&& 31))) ||| x3) : Int32) H9))))))) else
    if lbl = 73 then (gd (vp_in x1 10) (if ((ea_i h (b0 + 6) (Int32.toNatClampNeg x1)) - (1 : Int32)) ≤ x3 then (gX10_collect b0 f 28 (x1 : Int32) (x2 : Int32) ((x3 + (1 : Int32)) : Int32) 0 h) else (gd ((okX9_goesAt b0 (x1 : Int32) (x2 : Int32) (x3 : Int32) h)) (gd ((okX10_addKey b0 ((vX9_goesAt b0 (x1 : Int32) (x2 : Int32) (x3 : Int32) h) : Int32) (((1024 : Int32) ||| x4) : Int32) h)) (ea_let (wX10_addKey b0 ((vX9_goesAt b0 (x1 : Int32) (x2 : Int32) (x3 : Int32) h) : Int32) (((1024 : Int32) ||| x4) : Int32) h) fun H16 => (gX10_collect b0 f 28 (x1 : Int32) (x2 : Int32) ((x3 + (1 : Int32)) : Int32) 0 H16)))))) else none
theorem tX10_collect {d : Nat} {b0 : Nat} {h0 : ea_H} (hd : 2 ≤ d) : ∀ (f lbl : Nat) (x1 : Int32) (x2 : Int32) (x3 : Int32) (x4 : Int32) (h : ea_H) (r : Unit) (h' : ea_H), gX10_collect b0 f lbl x1 x2 x3 x4 h = some (r, h') → ShC b0 h → (lbl = 0 → ea_W mX10_collect d h0 none h' 0 [(0, vR (some (b0 + 13)))] [] h) ∧ (lbl = 7 → ea_W mX10_collect d h0 none h' 7 [(0, vR (some (b0 + 13))), (1, vI x1)] [] h) ∧ (lbl = 20 → ea_W mX10_collect d h0 none h' 20 [(0, vR (some (b0 + 13))), (1, vI x1), (2, vI x2)] [] h) ∧ (lbl = 28 → ea_W mX10_collect d h0 none h' 28 [(0, vR (some (b0 + 13))), (1, vI x1), (2, vI x2), (3, vI x3)] [] h) ∧ (lbl = 73 → ea_W mX10_collect d h0 none h' 73 [(0, vR (some (b0 + 13))), (1, vI x1), (2, vI x2), (3, vI x3), (4, vI x4)] [] h) := by
  intro f
  induction f with
  | zero => intro lbl x1 x2 x3 x4 h r h' E; cases E
  | succ f ih =>
    intro lbl x1 x2 x3 x4 h r h' E hs
    unfold gX10_collect at E
    refine ⟨?_, ?_⟩
    · intro el
      subst el
      have E := (if_pos rfl).symm.trans E
      refine ea_aload_n (pc := 0) dX10_collect_0 rfl 0 rfl ?_
      refine ea_iconst (pc := 1) dX10_collect_1 (v := 0) rfl ?_
      refine ea_putI (pc := 2) dX10_collect_2 ec_10 (k := 1) (Nat.le_of_ble_eq_true rfl) rfl (Or.inl ⟨rfl, Or.inl ew_227⟩) rfl rfl (hs.1 13 (by decide)).1 (hs.1 13 (by decide)).2.1 ?_
      have hs1 : ShC b0 (ea_wi h (b0 + 13) 1 0) := ShC_wi hs
      obtain ⟨H2, eH2, E⟩ := let_some E
      refine ea_nm eH2 ?_
      have hsH2 : ShC b0 H2 := by rw [eH2]; exact hs1
      refine ea_iconst (pc := 5) dX10_collect_5 (v := 0) rfl ?_
      refine ea_istore_n (pc := 6) (lv' := [(0, vR (some (b0 + 13))), (1, vI 0)]) dX10_collect_6 rfl (Nat.le_of_ble_eq_true rfl) [1, 0] rfl ?_
      exact ((ih 7 (0 : Int32) 0 0 0 H2 _ _ E hsH2).2.1 rfl)
    refine ⟨?_, ?_⟩
    · intro el
      subst el
      have E := (if_neg (by decide)).symm.trans E
      have E := (if_pos rfl).symm.trans E
      refine ea_iload_n (pc := 7) dX10_collect_7 rfl 1 rfl ?_
      refine ea_aload_n (pc := 8) dX10_collect_8 rfl 0 rfl ?_
      refine ea_getR (pc := 9) dX10_collect_9 ec_10 (k := 2) (Nat.le_of_ble_eq_true rfl) rfl (Or.inl ew_229) (hs.1 13 (by decide)).1 (hs.1 13 (by decide)).2.1 (hs.2 13 2 rfl) ?_
      refine ea_getI (pc := 12) dX10_collect_12 ec_9 (k := 0) (Nat.le_of_ble_eq_true rfl) rfl (Or.inl ew_179) (hs.1 5 (by decide)).1 (hs.1 5 (by decide)).2.1 ?_
      refine ea_icmp_ge (pc := 15) (tgt := 126) dX10_collect_15 rfl (fun c3 => ?_) (fun c3 => ?_)
      · have E := (if_pos c3).symm.trans E
        exact ea_vretO (pc := 126) dX10_collect_126 rfl E
      · have E := (if_neg c3).symm.trans E
        refine ea_iconst (pc := 18) dX10_collect_18 (v := 0) rfl ?_
        refine ea_istore_n (pc := 19) (lv' := [(0, vR (some (b0 + 13))), (1, vI x1), (2, vI 0)]) dX10_collect_19 rfl (Nat.le_of_ble_eq_true rfl) [1, 2, 0] rfl ?_
        exact ((ih 20 (x1 : Int32) (0 : Int32) 0 0 h _ _ E hs).2.2.1 rfl)
    refine ⟨?_, ?_⟩
    · intro el
      subst el
      have E := (if_neg (by decide)).symm.trans E
      have E := (if_neg (by decide)).symm.trans E
      have E := (if_pos rfl).symm.trans E
      refine ea_iload_n (pc := 20) dX10_collect_20 rfl 2 rfl ?_
      refine ea_bipush (pc := 21) dX10_collect_21 (v := 7) rfl ?_
      refine ea_icmp_ge (pc := 23) (tgt := 120) dX10_collect_23 rfl (fun c4 => ?_) (fun c4 => ?_)
      · have E := (if_pos c4).symm.trans E
        refine ea_iinc (pc := 120) (v := 1) (lv' := [(0, vR (some (b0 + 13))), (1, vI (x1 + (1 : Int32)))]) dX10_collect_120 1 rfl rfl (Nat.le_of_ble_eq_true rfl) [1, 0] rfl ?_
        refine ea_goto (pc := 123) (tgt := 7) dX10_collect_123 rfl ?_
        exact ((ih 7 ((x1 + (1 : Int32)) : Int32) 0 0 0 h _ _ E hs).2.1 rfl)
      · have E := (if_neg c4).symm.trans E
        refine ea_iconst (pc := 26) dX10_collect_26 (v := 0) rfl ?_
        refine ea_istore_n (pc := 27) (lv' := [(0, vR (some (b0 + 13))), (1, vI x1), (2, vI x2), (3, vI 0)]) dX10_collect_27 rfl (Nat.le_of_ble_eq_true rfl) [1, 2, 3, 0] rfl ?_
        exact ((ih 28 (x1 : Int32) (x2 : Int32) (0 : Int32) 0 h _ _ E hs).2.2.2.1 rfl)
    refine ⟨?_, ?_⟩
    · intro el
      subst el
      have E := (if_neg (by decide)).symm.trans E
      have E := (if_neg (by decide)).symm.trans E
      have E := (if_neg (by decide)).symm.trans E
      have E := (if_pos rfl).symm.trans E
      refine ea_iload_n (pc := 28) dX10_collect_28 rfl 3 rfl ?_
      refine ea_aload_n (pc := 29) dX10_collect_29 rfl 0 rfl ?_
      refine ea_getR (pc := 30) dX10_collect_30 ec_10 (k := 2) (Nat.le_of_ble_eq_true rfl) rfl (Or.inl ew_229) (hs.1 13 (by decide)).1 (hs.1 13 (by decide)).2.1 (hs.2 13 2 rfl) ?_
      refine ea_getR (pc := 33) dX10_collect_33 ec_9 (k := 1) (Nat.le_of_ble_eq_true rfl) rfl (Or.inl ew_183) (hs.1 5 (by decide)).1 (hs.1 5 (by decide)).2.1 (hs.2 5 1 rfl) ?_
      refine ea_iload_n (pc := 36) dX10_collect_36 rfl 1 rfl ?_
      obtain ⟨z5, E⟩ := gd_some E
      refine ea_iald (pc := 37) dX10_collect_37 (hs.1 6 (by decide)).1 (hs.1 6 (by decide)).2.1 (ea_vpl (hs.1 6 (by decide)).2.2 z5) ?_
      refine ea_icmp_ge (pc := 38) (tgt := 114) dX10_collect_38 rfl (fun c11 => ?_) (fun c11 => ?_)
      · have E := (if_pos c11).symm.trans E
        refine ea_iinc (pc := 114) (v := 1) (lv' := [(0, vR (some (b0 + 13))), (1, vI x1), (2, vI (x2 + (1 : Int32)))]) dX10_collect_114 2 rfl rfl (Nat.le_of_ble_eq_true rfl) [1, 2, 0] rfl ?_
        refine ea_goto (pc := 117) (tgt := 20) dX10_collect_117 rfl ?_
        exact ((ih 20 (x1 : Int32) ((x2 + (1 : Int32)) : Int32) 0 0 h _ _ E hs).2.2.1 rfl)
      · have E := (if_neg c11).symm.trans E
        refine ea_iload_n (pc := 41) dX10_collect_41 rfl 1 rfl ?_
        refine ea_bipush (pc := 42) dX10_collect_42 (v := 6) rfl ?_
        refine ea_ishl (pc := 44) dX10_collect_44 ?_
        refine ea_iload_n (pc := 45) dX10_collect_45 rfl 2 rfl ?_
        refine ea_iconst (pc := 46) dX10_collect_46 (v := 3) rfl ?_
        refine ea_ishl (pc := 47) dX10_collect_47 ?_
        refine ea_ior (pc := 48) dX10_collect_48 ?_
        refine ea_iload_n (pc := 49) dX10_collect_49 rfl 3 rfl ?_
        refine ea_ior (pc := 50) dX10_collect_50 ?_
        refine ea_istore (pc := 51) (lv' := [(0, vR (some (b0 + 13))), (1, vI x1), (2, vI x2), (3, vI x3), (4, vI (((x1 <<< ((6 : Int32) &&& 31)) ||| (x2 <<< ((3 : Int32) &&& 31))) ||| x3))]) dX10_collect_51 (Nat.le_of_ble_eq_true rfl) [1, 2, 3, 4, 0] rfl ?_
        refine ea_iload_n (pc := 53) dX10_collect_53 rfl 3 rfl ?_
        refine ea_if_le (pc := 54) (tgt := 73) dX10_collect_54 rfl (fun c10 => ?_) (fun c10 => ?_)
        · have E := (if_pos c10).symm.trans E
          exact ((ih 73 (x1 : Int32) (x2 : Int32) (x3 : Int32) ((((x1 <<< ((6 : Int32) &&& 31)) ||| (x2 <<< ((3 : Int32) &&& 31))) ||| x3) : Int32) h _ _ E hs).2.2.2.2 rfl)
        · have E := (if_neg c10).symm.trans E
          refine ea_aload_n (pc := 57) dX10_collect_57 rfl 0 rfl ?_
          refine ea_aload_n (pc := 58) dX10_collect_58 rfl 0 rfl ?_
          refine ea_getR (pc := 59) dX10_collect_59 ec_10 (k := 2) (Nat.le_of_ble_eq_true rfl) rfl (Or.inl ew_229) (hs.1 13 (by decide)).1 (hs.1 13 (by decide)).2.1 (hs.2 13 2 rfl) ?_
          refine ea_iload_n (pc := 62) dX10_collect_62 rfl 1 rfl ?_
          refine ea_iload_n (pc := 63) dX10_collect_63 rfl 2 rfl ?_
          refine ea_iload_n (pc := 64) dX10_collect_64 rfl 3 rfl ?_
          obtain ⟨z6, E⟩ := gd_some E
          refine ea_callV (pc := 65) (d' := d - 1) (As := [vI x1, vI x2, vI x3]) (st := [vR (some (b0 + 13))]) dX10_collect_65 kX9_comesAt (sX9_comesAt (d := d - 1) (by omega) hs z6) (by omega) rfl (Nat.le_of_ble_eq_true rfl) ew_571 ew_552 ew_553 (ci := 9) rfl (by decide) (hs.1 5 (by decide)).1 (hs.1 5 (by decide)).2.1 ?_
          refine ea_iload (pc := 68) dX10_collect_68 4 rfl ?_
          obtain ⟨z7, E⟩ := gd_some E
          refine ea_callV (pc := 70) (d' := d - 1) (As := [vI (vX9_comesAt b0 (x1 : Int32) (x2 : Int32) (x3 : Int32) h), vI (((x1 <<< ((6 : Int32) &&& 31)) ||| (x2 <<< ((3 : Int32) &&& 31))) ||| x3)]) (st := []) dX10_collect_70 kX10_addKey (sX10_addKey (d := d - 1) (by omega) hs z7) (by omega) rfl (Nat.le_of_ble_eq_true rfl) ew_572 ew_574 ew_4 (ci := 10) rfl (by decide) (hs.1 13 (by decide)).1 (hs.1 13 (by decide)).2.1 ?_
          have hs8 : ShC b0 (wX10_addKey b0 ((vX9_comesAt b0 (x1 : Int32) (x2 : Int32) (x3 : Int32) h) : Int32) ((((x1 <<< ((6 : Int32) &&& 31)) ||| (x2 <<< ((3 : Int32) &&& 31))) ||| x3) : Int32) h) := shX10_addKey hs
          obtain ⟨H9, eH9, E⟩ := let_some E
          refine ea_nm eH9 ?_
          have hsH9 : ShC b0 H9 := by rw [eH9]; exact hs8
          exact ((ih 73 (x1 : Int32) (x2 : Int32) (x3 : Int32) ((((x1 <<< ((6 : Int32) &&& 31)) ||| (x2 <<< ((3 : Int32) &&& 31))) ||| x3) : Int32) H9 _ _ E hsH9).2.2.2.2 rfl)
    intro el
    subst el
    have E := (if_neg (by decide)).symm.trans E
    have E := (if_neg (by decide)).symm.trans E
    have E := (if_neg (by decide)).symm.trans E
    have E := (if_neg (by decide)).symm.trans E
    have E := (if_pos rfl).symm.trans E
    refine ea_iload_n (pc := 73) dX10_collect_73 rfl 3 rfl ?_
    refine ea_aload_n (pc := 74) dX10_collect_74 rfl 0 rfl ?_
    refine ea_getR (pc := 75) dX10_collect_75 ec_10 (k := 2) (Nat.le_of_ble_eq_true rfl) rfl (Or.inl ew_229) (hs.1 13 (by decide)).1 (hs.1 13 (by decide)).2.1 (hs.2 13 2 rfl) ?_
    refine ea_getR (pc := 78) dX10_collect_78 ec_9 (k := 1) (Nat.le_of_ble_eq_true rfl) rfl (Or.inl ew_183) (hs.1 5 (by decide)).1 (hs.1 5 (by decide)).2.1 (hs.2 5 1 rfl) ?_
    refine ea_iload_n (pc := 81) dX10_collect_81 rfl 1 rfl ?_
    obtain ⟨z12, E⟩ := gd_some E
    refine ea_iald (pc := 82) dX10_collect_82 (hs.1 6 (by decide)).1 (hs.1 6 (by decide)).2.1 (ea_vpl (hs.1 6 (by decide)).2.2 z12) ?_
    refine ea_iconst (pc := 83) dX10_collect_83 (v := 1) rfl ?_
    refine ea_isub (pc := 84) dX10_collect_84 ?_
    refine ea_icmp_ge (pc := 85) (tgt := 108) dX10_collect_85 rfl (fun c17 => ?_) (fun c17 => ?_)
    · have E := (if_pos c17).symm.trans E
      refine ea_iinc (pc := 108) (v := 1) (lv' := [(0, vR (some (b0 + 13))), (1, vI x1), (2, vI x2), (3, vI (x3 + (1 : Int32)))]) dX10_collect_108 3 rfl rfl (Nat.le_of_ble_eq_true rfl) [1, 2, 3, 0] rfl ?_
      refine ea_goto (pc := 111) (tgt := 28) dX10_collect_111 rfl ?_
      exact ((ih 28 (x1 : Int32) (x2 : Int32) ((x3 + (1 : Int32)) : Int32) 0 h _ _ E hs).2.2.2.1 rfl)
    · have E := (if_neg c17).symm.trans E
      refine ea_aload_n (pc := 88) dX10_collect_88 rfl 0 rfl ?_
      refine ea_aload_n (pc := 89) dX10_collect_89 rfl 0 rfl ?_
      refine ea_getR (pc := 90) dX10_collect_90 ec_10 (k := 2) (Nat.le_of_ble_eq_true rfl) rfl (Or.inl ew_229) (hs.1 13 (by decide)).1 (hs.1 13 (by decide)).2.1 (hs.2 13 2 rfl) ?_
      refine ea_iload_n (pc := 93) dX10_collect_93 rfl 1 rfl ?_
      refine ea_iload_n (pc := 94) dX10_collect_94 rfl 2 rfl ?_
      refine ea_iload_n (pc := 95) dX10_collect_95 rfl 3 rfl ?_
      obtain ⟨z13, E⟩ := gd_some E
      refine ea_callV (pc := 96) (d' := d - 1) (As := [vI x1, vI x2, vI x3]) (st := [vR (some (b0 + 13))]) dX10_collect_96 kX9_goesAt (sX9_goesAt (d := d - 1) (by omega) hs z13) (by omega) rfl (Nat.le_of_ble_eq_true rfl) ew_576 ew_577 ew_578 (ci := 9) rfl (by decide) (hs.1 5 (by decide)).1 (hs.1 5 (by decide)).2.1 ?_
      refine ea_sipush (pc := 99) dX10_collect_99 (v := 1024) rfl ?_
      refine ea_iload (pc := 102) dX10_collect_102 4 rfl ?_
      refine ea_ior (pc := 104) dX10_collect_104 ?_
      obtain ⟨z14, E⟩ := gd_some E
      refine ea_callV (pc := 105) (d' := d - 1) (As := [vI (vX9_goesAt b0 (x1 : Int32) (x2 : Int32) (x3 : Int32) h), vI ((1024 : Int32) ||| x4)]) (st := []) dX10_collect_105 kX10_addKey (sX10_addKey (d := d - 1) (by omega) hs z14) (by omega) rfl (Nat.le_of_ble_eq_true rfl) ew_572 ew_574 ew_4 (ci := 10) rfl (by decide) (hs.1 13 (by decide)).1 (hs.1 13 (by decide)).2.1 ?_
      have hs15 : ShC b0 (wX10_addKey b0 ((vX9_goesAt b0 (x1 : Int32) (x2 : Int32) (x3 : Int32) h) : Int32) (((1024 : Int32) ||| x4) : Int32) h) := shX10_addKey hs
      obtain ⟨H16, eH16, E⟩ := let_some E
      refine ea_nm eH16 ?_
      have hsH16 : ShC b0 H16 := by rw [eH16]; exact hs15
      refine ea_iinc (pc := 108) (v := 1) (lv' := [(0, vR (some (b0 + 13))), (1, vI x1), (2, vI x2), (3, vI (x3 + (1 : Int32)))]) dX10_collect_108 3 rfl rfl (Nat.le_of_ble_eq_true rfl) [1, 2, 3, 0] rfl ?_
      refine ea_goto (pc := 111) (tgt := 28) dX10_collect_111 rfl ?_
      exact ((ih 28 (x1 : Int32) (x2 : Int32) ((x3 + (1 : Int32)) : Int32) 0 H16 _ _ E hsH16).2.2.2.1 rfl)
noncomputable def qX10_collect (b0 : Nat) (h : ea_H) : Option (Unit × ea_H) := gX10_collect b0 1000000000 0 0 0 0 0 h
def okX10_collect (b0 : Nat) (h : ea_H) : Prop := ∃ x, qX10_collect b0 h = some x
noncomputable def wX10_collect (b0 : Nat) (h : ea_H) : ea_H := ((qX10_collect b0 h).getD ((), h)).2
theorem sX10_collect {d : Nat} {b0 : Nat} {h : ea_H} (hd : 2 ≤ d) (hs : ShC b0 h) (K : okX10_collect b0 h) : ea_Met mX10_collect d [vR (some (b0 + 13))] h none (wX10_collect b0 h) := by
  obtain ⟨⟨x, y⟩, K⟩ := K
  unfold wX10_collect
  rw [K]
  unfold qX10_collect at K
  exact ea_enter rfl (Nat.le_of_ble_eq_true rfl) ((tX10_collect hd 1000000000 0 0 0 0 0 h x y K hs).1 rfl)
theorem zX10_collect {b0 : Nat} : ∀ (f lbl : Nat) (x1 : Int32) (x2 : Int32) (x3 : Int32) (x4 : Int32) (h : ea_H) (r : Unit) (h' : ea_H), gX10_collect b0 f lbl x1 x2 x3 x4 h = some (r, h') → ShC b0 h → ShC b0 h' := by
  intro f
  induction f with
  | zero => intro lbl x1 x2 x3 x4 h r h' E; cases E
  | succ f ih =>
    intro lbl x1 x2 x3 x4 h r h' E hs
    unfold gX10_collect at E
    by_cases el0 : lbl = 0
    · have E := (if_pos el0).symm.trans E
      obtain ⟨H2, eH2, E⟩ := let_some E
      have hsH2 : ShC b0 H2 := by rw [eH2]; exact (ShC_wi hs)
      exact ih 7 (0 : Int32) 0 0 0 H2 _ _ E hsH2
    have E := (if_neg el0).symm.trans E
    by_cases el1 : lbl = 7
    · have E := (if_pos el1).symm.trans E
      by_cases c3 : (ea_i h (b0 + 5) 0) ≤ x1
      · have E := (if_pos c3).symm.trans E
        exact ea_shO E hs
      have E := (if_neg c3).symm.trans E
      exact ih 20 (x1 : Int32) (0 : Int32) 0 0 h _ _ E hs
    have E := (if_neg el1).symm.trans E
    by_cases el2 : lbl = 20
    · have E := (if_pos el2).symm.trans E
      by_cases c4 : (7 : Int32) ≤ x2
      · have E := (if_pos c4).symm.trans E
        exact ih 7 ((x1 + (1 : Int32)) : Int32) 0 0 0 h _ _ E hs
      have E := (if_neg c4).symm.trans E
      exact ih 28 (x1 : Int32) (x2 : Int32) (0 : Int32) 0 h _ _ E hs
    have E := (if_neg el2).symm.trans E
    by_cases el3 : lbl = 28
    · have E := (if_pos el3).symm.trans E
      obtain ⟨z5, E⟩ := gd_some E
      by_cases c11 : (ea_i h (b0 + 6) (Int32.toNatClampNeg x1)) ≤ x3
      · have E := (if_pos c11).symm.trans E
        exact ih 20 (x1 : Int32) ((x2 + (1 : Int32)) : Int32) 0 0 h _ _ E hs
      have E := (if_neg c11).symm.trans E
      by_cases c10 : x3 ≤ (0 : Int32)
      · have E := (if_pos c10).symm.trans E
        exact ih 73 (x1 : Int32) (x2 : Int32) (x3 : Int32) ((((x1 <<< ((6 : Int32) &&& 31)) ||| (x2 <<< ((3 : Int32) &&& 31))) ||| x3) : Int32) h _ _ E hs
      have E := (if_neg c10).symm.trans E
      obtain ⟨z6, E⟩ := gd_some E
      obtain ⟨z7, E⟩ := gd_some E
      obtain ⟨H9, eH9, E⟩ := let_some E
      have hsH9 : ShC b0 H9 := by rw [eH9]; exact (shX10_addKey hs)
      exact ih 73 (x1 : Int32) (x2 : Int32) (x3 : Int32) ((((x1 <<< ((6 : Int32) &&& 31)) ||| (x2 <<< ((3 : Int32) &&& 31))) ||| x3) : Int32) H9 _ _ E hsH9
    have E := (if_neg el3).symm.trans E
    by_cases el4 : lbl = 73
    · have E := (if_pos el4).symm.trans E
      obtain ⟨z12, E⟩ := gd_some E
      by_cases c17 : ((ea_i h (b0 + 6) (Int32.toNatClampNeg x1)) - (1 : Int32)) ≤ x3
      · have E := (if_pos c17).symm.trans E
        exact ih 28 (x1 : Int32) (x2 : Int32) ((x3 + (1 : Int32)) : Int32) 0 h _ _ E hs
      have E := (if_neg c17).symm.trans E
      obtain ⟨z13, E⟩ := gd_some E
      obtain ⟨z14, E⟩ := gd_some E
      obtain ⟨H16, eH16, E⟩ := let_some E
      have hsH16 : ShC b0 H16 := by rw [eH16]; exact (shX10_addKey hs)
      exact ih 28 (x1 : Int32) (x2 : Int32) ((x3 + (1 : Int32)) : Int32) 0 H16 _ _ E hsH16
    have E := (if_neg el4).symm.trans E
    cases E
theorem shX10_collect {b0 : Nat} {h : ea_H} (hs : ShC b0 h) : ShC b0 (wX10_collect b0 h) := by
  unfold wX10_collect
  cases K : qX10_collect b0 h with
  | none => exact hs
  | some x => obtain ⟨x, y⟩ := x; unfold qX10_collect at K; exact zX10_collect _ _ _ _ _ _ _ _ _ K hs
noncomputable def gX10_sortKeys (b0 : Nat) : Nat → Nat → Int32 → Int32 → Int32 → Int32 → ea_H → Option (Unit × ea_H)
  | 0, _, _, _, _, _, _ => none
  | f + 1, lbl, x1, x2, x3, x4, h =>
    if lbl = 0 then (gX10_sortKeys b0 f 4 (364 : Int32) 0 0 0 h) else
    if lbl = 4 then (if x1 ≤ (0 : Int32) then (some ((), h)) else (gX10_sortKeys b0 f 10 (x1 : Int32) (x1 : Int32) 0 0 h)) else
    if lbl = 10 then (if (ea_i h (b0 + 13) 1) ≤ x2 then (gX10_sortKeys b0 f 4 ((x1 / (3 : Int32)) : Int32) 0 0 0 h) else (gd ((ea_r h (b0 + 13) 3) = some (Option.getD (ea_r h (b0 + 13) 3) 0)) (gd (((Option.getD (ea_r h (b0 + 13) 3) 0) < ea_n h ∧ ea_c h (Option.getD (ea_r h (b0 + 13) 3) 0) = 20)) (gd (vp_in x2 (ea_l h (Option.getD (ea_r h (b0 + 13) 3) 0))) (gX10_sortKeys b0 f 28 (x1 : Int32) (x2 : Int32) ((ea_i h (Option.getD (ea_r h (b0 + 13) 3) 0) (Int32.toNatClampNeg x2)) : Int32) (x2 : Int32) h))))) else
    if lbl = 28 then (if x4 < x1 then (gd ((ea_r h (b0 + 13) 3) = some (Option.getD (ea_r h (b0 + 13) 3) 0)) (gd (((Option.getD (ea_r h (b0 + 13) 3) 0) < ea_n h ∧ ea_c h (Option.getD (ea_r h (b0 + 13) 3) 0) = 20)) (gd (vp_in x4 (ea_l h (Option.getD (ea_r h (b0 + 13) 3) 0))) (ea_let (ea_wi h (Option.getD (ea_r h (b0 + 13) 3) 0) (Int32.toNatClampNeg x4) x3) fun H10 => (gX10_sortKeys b0 f 10 (x1 : Int32) ((x2 + (1 : Int32)) : Int32) 0 0 H10))))) else (gd ((ea_r h (b0 + 13) 3) = some (Option.getD (ea_r h (b0 + 13) 3) 0)) (gd (((Option.getD (ea_r h (b0 + 13) 3) 0) < ea_n h ∧ ea_c h (Option.getD (ea_r h (b0 + 13) 3) 0) = 20)) (gd (vp_in (x4 - x1) (ea_l h (Option.getD (ea_r h (b0 + 13) 3) 0))) (if (ea_i h (Option.getD (ea_r h (b0 + 13) 3) 0) (Int32.toNatClampNeg (x4 - x1))) ≤ x3 then (gd ((ea_r h (b0 + 13) 3) = some (Option.getD (ea_r h (b0 + 13) 3) 0)) (gd (((Option.getD (ea_r h (b0 + 13) 3) 0) < ea_n h ∧ ea_c h (Option.getD (ea_r h (b0 + 13) 3) 0) = 20)) (gd (vp_in x4 (ea_l h (Option.getD (ea_r h (b0 + 13) 3) 0))) (ea_let (ea_wi h (Option.getD (ea_r h (b0 + 13) 3) 0) (Int32.toNatClampNeg x4) x3) fun H18 => (gX10_sortKeys b0 f 10 (x1 : Int32) ((x2 + (1 : Int32)) : Int32) 0 0 H18))))) else (gd ((ea_r h (b0 + 13) 3) = some (Option.getD (ea_r h (b0 + 13) 3) 0)) (gd (((Option.getD (ea_r h (b0 + 13) 3) 0) < ea_n h ∧ ea_c h (Option.getD (ea_r h (b0 + 13) 3) 0) = 20)) (gd (vp_in (x4 - x1) (ea_l h (Option.getD (ea_r h (b0 + 13) 3) 0))) (gd ((ea_r h (b0 + 13) 3) = some (Option.getD (ea_r h (b0 + 13) 3) 0)) (gd (((Option.getD (ea_r h (b0 + 13) 3) 0) < ea_n h ∧ ea_c h (Option.getD (ea_r h (b0 + 13) 3) 0) = 20)) (gd (vp_in x4 (ea_l h (Option.getD (ea_r h (b0 + 13) 3) 0))) (ea_let (ea_wi h (Option.getD (ea_r h (b0 + 13) 3) 0) (Int32.toNatClampNeg x4) (ea_i h (Option.getD (ea_r h (b0 + 13) 3) 0) (Int32.toNatClampNeg (x4 - x1)))) fun H26 => (gX10_sortKeys b0 f 28 (x1 : Int32) (x2 : Int32) (x3 : Int32) ((x4 - x1) : Int32) H26))))))))))))) else none
theorem tX10_sortKeys {d : Nat} {b0 : Nat} {h0 : ea_H} (hd : 1 ≤ d) : ∀ (f lbl : Nat) (x1 : Int32) (x2 : Int32) (x3 : Int32) (x4 : Int32) (h : ea_H) (r : Unit) (h' : ea_H), gX10_sortKeys b0 f lbl x1 x2 x3 x4 h = some (r, h') → ShC b0 h → (lbl = 0 → ea_W mX10_sortKeys d h0 none h' 0 [(0, vR (some (b0 + 13)))] [] h) ∧ (lbl = 4 → ea_W mX10_sortKeys d h0 none h' 4 [(0, vR (some (b0 + 13))), (1, vI x1)] [] h) ∧ (lbl = 10 → ea_W mX10_sortKeys d h0 none h' 10 [(0, vR (some (b0 + 13))), (1, vI x1), (2, vI x2)] [] h) ∧ (lbl = 28 → ea_W mX10_sortKeys d h0 none h' 28 [(0, vR (some (b0 + 13))), (1, vI x1), (2, vI x2), (3, vI x3), (4, vI x4)] [] h) := by
  intro f
  induction f with
  | zero => intro lbl x1 x2 x3 x4 h r h' E; cases E
  | succ f ih =>
    intro lbl x1 x2 x3 x4 h r h' E hs
    unfold gX10_sortKeys at E
    refine ⟨?_, ?_⟩
    · intro el
      subst el
      have E := (if_pos rfl).symm.trans E
      refine ea_sipush (pc := 0) dX10_sortKeys_0 (v := 364) rfl ?_
      refine ea_istore_n (pc := 3) (lv' := [(0, vR (some (b0 + 13))), (1, vI 364)]) dX10_sortKeys_3 rfl (Nat.le_of_ble_eq_true rfl) [1, 0] rfl ?_
      exact ((ih 4 (364 : Int32) 0 0 0 h _ _ E hs).2.1 rfl)
    refine ⟨?_, ?_⟩
    · intro el
      subst el
      have E := (if_neg (by decide)).symm.trans E
      have E := (if_pos rfl).symm.trans E
      refine ea_iload_n (pc := 4) dX10_sortKeys_4 rfl 1 rfl ?_
      refine ea_if_le (pc := 5) (tgt := 93) dX10_sortKeys_5 rfl (fun c1 => ?_) (fun c1 => ?_)
      · have E := (if_pos c1).symm.trans E
        exact ea_vretO (pc := 93) dX10_sortKeys_93 rfl E
      · have E := (if_neg c1).symm.trans E
        refine ea_iload_n (pc := 8) dX10_sortKeys_8 rfl 1 rfl ?_
        refine ea_istore_n (pc := 9) (lv' := [(0, vR (some (b0 + 13))), (1, vI x1), (2, vI x1)]) dX10_sortKeys_9 rfl (Nat.le_of_ble_eq_true rfl) [1, 2, 0] rfl ?_
        exact ((ih 10 (x1 : Int32) (x1 : Int32) 0 0 h _ _ E hs).2.2.1 rfl)
    refine ⟨?_, ?_⟩
    · intro el
      subst el
      have E := (if_neg (by decide)).symm.trans E
      have E := (if_neg (by decide)).symm.trans E
      have E := (if_pos rfl).symm.trans E
      refine ea_iload_n (pc := 10) dX10_sortKeys_10 rfl 2 rfl ?_
      refine ea_aload_n (pc := 11) dX10_sortKeys_11 rfl 0 rfl ?_
      refine ea_getI (pc := 12) dX10_sortKeys_12 ec_10 (k := 1) (Nat.le_of_ble_eq_true rfl) rfl (Or.inl ew_227) (hs.1 13 (by decide)).1 (hs.1 13 (by decide)).2.1 ?_
      refine ea_icmp_ge (pc := 15) (tgt := 86) dX10_sortKeys_15 rfl (fun c5 => ?_) (fun c5 => ?_)
      · have E := (if_pos c5).symm.trans E
        refine ea_iload_n (pc := 86) dX10_sortKeys_86 rfl 1 rfl ?_
        refine ea_iconst (pc := 87) dX10_sortKeys_87 (v := 3) rfl ?_
        refine ea_idiv (pc := 88) dX10_sortKeys_88 (by decide) ?_
        refine ea_istore_n (pc := 89) (lv' := [(0, vR (some (b0 + 13))), (1, vI (x1 / (3 : Int32)))]) dX10_sortKeys_89 rfl (Nat.le_of_ble_eq_true rfl) [1, 0] rfl ?_
        refine ea_goto (pc := 90) (tgt := 4) dX10_sortKeys_90 rfl ?_
        exact ((ih 4 ((x1 / (3 : Int32)) : Int32) 0 0 0 h _ _ E hs).2.1 rfl)
      · have E := (if_neg c5).symm.trans E
        refine ea_aload_n (pc := 18) dX10_sortKeys_18 rfl 0 rfl ?_
        refine ea_getR (pc := 19) dX10_sortKeys_19 ec_10 (k := 3) (Nat.le_of_ble_eq_true rfl) rfl (Or.inl ew_230) (hs.1 13 (by decide)).1 (hs.1 13 (by decide)).2.1 rfl ?_
        refine ea_iload_n (pc := 22) dX10_sortKeys_22 rfl 2 rfl ?_
        obtain ⟨e2, E⟩ := gd_some E
        obtain ⟨f3, E⟩ := gd_some E
        obtain ⟨z4, E⟩ := gd_some E
        refine ea_deref1 e2 ?_
        refine ea_iald (pc := 23) dX10_sortKeys_23 f3.1 f3.2 z4 ?_
        refine ea_istore_n (pc := 24) (lv' := [(0, vR (some (b0 + 13))), (1, vI x1), (2, vI x2), (3, vI (ea_i h (Option.getD (ea_r h (b0 + 13) 3) 0) (Int32.toNatClampNeg x2)))]) dX10_sortKeys_24 rfl (Nat.le_of_ble_eq_true rfl) [1, 2, 3, 0] rfl ?_
        refine ea_iload_n (pc := 25) dX10_sortKeys_25 rfl 2 rfl ?_
        refine ea_istore (pc := 26) (lv' := [(0, vR (some (b0 + 13))), (1, vI x1), (2, vI x2), (3, vI (ea_i h (Option.getD (ea_r h (b0 + 13) 3) 0) (Int32.toNatClampNeg x2))), (4, vI x2)]) dX10_sortKeys_26 (Nat.le_of_ble_eq_true rfl) [1, 2, 3, 4, 0] rfl ?_
        exact ((ih 28 (x1 : Int32) (x2 : Int32) ((ea_i h (Option.getD (ea_r h (b0 + 13) 3) 0) (Int32.toNatClampNeg x2)) : Int32) (x2 : Int32) h _ _ E hs).2.2.2 rfl)
    intro el
    subst el
    have E := (if_neg (by decide)).symm.trans E
    have E := (if_neg (by decide)).symm.trans E
    have E := (if_neg (by decide)).symm.trans E
    have E := (if_pos rfl).symm.trans E
    refine ea_iload (pc := 28) dX10_sortKeys_28 4 rfl ?_
    refine ea_iload_n (pc := 30) dX10_sortKeys_30 rfl 1 rfl ?_
    refine ea_icmp_lt (pc := 31) (tgt := 72) dX10_sortKeys_31 rfl (fun c28 => ?_) (fun c28 => ?_)
    · have E := (if_pos c28).symm.trans E
      refine ea_aload_n (pc := 72) dX10_sortKeys_72 rfl 0 rfl ?_
      refine ea_getR (pc := 73) dX10_sortKeys_73 ec_10 (k := 3) (Nat.le_of_ble_eq_true rfl) rfl (Or.inl ew_230) (hs.1 13 (by decide)).1 (hs.1 13 (by decide)).2.1 rfl ?_
      refine ea_iload (pc := 76) dX10_sortKeys_76 4 rfl ?_
      refine ea_iload_n (pc := 78) dX10_sortKeys_78 rfl 3 rfl ?_
      obtain ⟨e6, E⟩ := gd_some E
      obtain ⟨f7, E⟩ := gd_some E
      obtain ⟨z8, E⟩ := gd_some E
      refine ea_deref2 e6 ?_
      refine ea_iast (pc := 79) dX10_sortKeys_79 f7.1 f7.2 z8 ?_
      have hs9 : ShC b0 (ea_wi h (Option.getD (ea_r h (b0 + 13) 3) 0) (Int32.toNatClampNeg x4) x3) := ShC_wi hs
      obtain ⟨H10, eH10, E⟩ := let_some E
      refine ea_nm eH10 ?_
      have hsH10 : ShC b0 H10 := by rw [eH10]; exact hs9
      refine ea_iinc (pc := 80) (v := 1) (lv' := [(0, vR (some (b0 + 13))), (1, vI x1), (2, vI (x2 + (1 : Int32)))]) dX10_sortKeys_80 2 rfl rfl (Nat.le_of_ble_eq_true rfl) [1, 2, 0] rfl ?_
      refine ea_goto (pc := 83) (tgt := 10) dX10_sortKeys_83 rfl ?_
      exact ((ih 10 (x1 : Int32) ((x2 + (1 : Int32)) : Int32) 0 0 H10 _ _ E hsH10).2.2.1 rfl)
    · have E := (if_neg c28).symm.trans E
      refine ea_aload_n (pc := 34) dX10_sortKeys_34 rfl 0 rfl ?_
      refine ea_getR (pc := 35) dX10_sortKeys_35 ec_10 (k := 3) (Nat.le_of_ble_eq_true rfl) rfl (Or.inl ew_230) (hs.1 13 (by decide)).1 (hs.1 13 (by decide)).2.1 rfl ?_
      refine ea_iload (pc := 38) dX10_sortKeys_38 4 rfl ?_
      refine ea_iload_n (pc := 40) dX10_sortKeys_40 rfl 1 rfl ?_
      refine ea_isub (pc := 41) dX10_sortKeys_41 ?_
      obtain ⟨e11, E⟩ := gd_some E
      obtain ⟨f12, E⟩ := gd_some E
      obtain ⟨z13, E⟩ := gd_some E
      refine ea_deref1 e11 ?_
      refine ea_iald (pc := 42) dX10_sortKeys_42 f12.1 f12.2 z13 ?_
      refine ea_iload_n (pc := 43) dX10_sortKeys_43 rfl 3 rfl ?_
      refine ea_icmp_le (pc := 44) (tgt := 72) dX10_sortKeys_44 rfl (fun c27 => ?_) (fun c27 => ?_)
      · have E := (if_pos c27).symm.trans E
        refine ea_aload_n (pc := 72) dX10_sortKeys_72 rfl 0 rfl ?_
        refine ea_getR (pc := 73) dX10_sortKeys_73 ec_10 (k := 3) (Nat.le_of_ble_eq_true rfl) rfl (Or.inl ew_230) (hs.1 13 (by decide)).1 (hs.1 13 (by decide)).2.1 rfl ?_
        refine ea_iload (pc := 76) dX10_sortKeys_76 4 rfl ?_
        refine ea_iload_n (pc := 78) dX10_sortKeys_78 rfl 3 rfl ?_
        obtain ⟨e14, E⟩ := gd_some E
        obtain ⟨f15, E⟩ := gd_some E
        obtain ⟨z16, E⟩ := gd_some E
        refine ea_deref2 e14 ?_
        refine ea_iast (pc := 79) dX10_sortKeys_79 f15.1 f15.2 z16 ?_
        have hs17 : ShC b0 (ea_wi h (Option.getD (ea_r h (b0 + 13) 3) 0) (Int32.toNatClampNeg x4) x3) := ShC_wi hs
        obtain ⟨H18, eH18, E⟩ := let_some E
        refine ea_nm eH18 ?_
        have hsH18 : ShC b0 H18 := by rw [eH18]; exact hs17
        refine ea_iinc (pc := 80) (v := 1) (lv' := [(0, vR (some (b0 + 13))), (1, vI x1), (2, vI (x2 + (1 : Int32)))]) dX10_sortKeys_80 2 rfl rfl (Nat.le_of_ble_eq_true rfl) [1, 2, 0] rfl ?_
        refine ea_goto (pc := 83) (tgt := 10) dX10_sortKeys_83 rfl ?_
        exact ((ih 10 (x1 : Int32) ((x2 + (1 : Int32)) : Int32) 0 0 H18 _ _ E hsH18).2.2.1 rfl)
      · have E := (if_neg c27).symm.trans E
        refine ea_aload_n (pc := 47) dX10_sortKeys_47 rfl 0 rfl ?_
        refine ea_getR (pc := 48) dX10_sortKeys_48 ec_10 (k := 3) (Nat.le_of_ble_eq_true rfl) rfl (Or.inl ew_230) (hs.1 13 (by decide)).1 (hs.1 13 (by decide)).2.1 rfl ?_
        refine ea_iload (pc := 51) dX10_sortKeys_51 4 rfl ?_
        refine ea_aload_n (pc := 53) dX10_sortKeys_53 rfl 0 rfl ?_
        refine ea_getR (pc := 54) dX10_sortKeys_54 ec_10 (k := 3) (Nat.le_of_ble_eq_true rfl) rfl (Or.inl ew_230) (hs.1 13 (by decide)).1 (hs.1 13 (by decide)).2.1 rfl ?_
        refine ea_iload (pc := 57) dX10_sortKeys_57 4 rfl ?_
        refine ea_iload_n (pc := 59) dX10_sortKeys_59 rfl 1 rfl ?_
        refine ea_isub (pc := 60) dX10_sortKeys_60 ?_
        obtain ⟨e19, E⟩ := gd_some E
        obtain ⟨f20, E⟩ := gd_some E
        obtain ⟨z21, E⟩ := gd_some E
        refine ea_deref1 e19 ?_
        refine ea_iald (pc := 61) dX10_sortKeys_61 f20.1 f20.2 z21 ?_
        obtain ⟨e22, E⟩ := gd_some E
        obtain ⟨f23, E⟩ := gd_some E
        obtain ⟨z24, E⟩ := gd_some E
        refine ea_deref2 e22 ?_
        refine ea_iast (pc := 62) dX10_sortKeys_62 f23.1 f23.2 z24 ?_
        have hs25 : ShC b0 (ea_wi h (Option.getD (ea_r h (b0 + 13) 3) 0) (Int32.toNatClampNeg x4) (ea_i h (Option.getD (ea_r h (b0 + 13) 3) 0) (Int32.toNatClampNeg (x4 - x1)))) := ShC_wi hs
        obtain ⟨H26, eH26, E⟩ := let_some E
        refine ea_nm eH26 ?_
        have hsH26 : ShC b0 H26 := by rw [eH26]; exact hs25
        refine ea_iload (pc := 63) dX10_sortKeys_63 4 rfl ?_
        refine ea_iload_n (pc := 65) dX10_sortKeys_65 rfl 1 rfl ?_
        refine ea_isub (pc := 66) dX10_sortKeys_66 ?_
        refine ea_istore (pc := 67) (lv' := [(0, vR (some (b0 + 13))), (1, vI x1), (2, vI x2), (3, vI x3), (4, vI (x4 - x1))]) dX10_sortKeys_67 (Nat.le_of_ble_eq_true rfl) [1, 2, 3, 4, 0] rfl ?_
        refine ea_goto (pc := 69) (tgt := 28) dX10_sortKeys_69 rfl ?_
        exact ((ih 28 (x1 : Int32) (x2 : Int32) (x3 : Int32) ((x4 - x1) : Int32) H26 _ _ E hsH26).2.2.2 rfl)
noncomputable def qX10_sortKeys (b0 : Nat) (h : ea_H) : Option (Unit × ea_H) := gX10_sortKeys b0 1000000000 0 0 0 0 0 h
def okX10_sortKeys (b0 : Nat) (h : ea_H) : Prop := ∃ x, qX10_sortKeys b0 h = some x
noncomputable def wX10_sortKeys (b0 : Nat) (h : ea_H) : ea_H := ((qX10_sortKeys b0 h).getD ((), h)).2
theorem sX10_sortKeys {d : Nat} {b0 : Nat} {h : ea_H} (hd : 1 ≤ d) (hs : ShC b0 h) (K : okX10_sortKeys b0 h) : ea_Met mX10_sortKeys d [vR (some (b0 + 13))] h none (wX10_sortKeys b0 h) := by
  obtain ⟨⟨x, y⟩, K⟩ := K
  unfold wX10_sortKeys
  rw [K]
  unfold qX10_sortKeys at K
  exact ea_enter rfl (Nat.le_of_ble_eq_true rfl) ((tX10_sortKeys hd 1000000000 0 0 0 0 0 h x y K hs).1 rfl)
theorem zX10_sortKeys {b0 : Nat} : ∀ (f lbl : Nat) (x1 : Int32) (x2 : Int32) (x3 : Int32) (x4 : Int32) (h : ea_H) (r : Unit) (h' : ea_H), gX10_sortKeys b0 f lbl x1 x2 x3 x4 h = some (r, h') → ShC b0 h → ShC b0 h' := by
  intro f
  induction f with
  | zero => intro lbl x1 x2 x3 x4 h r h' E; cases E
  | succ f ih =>
    intro lbl x1 x2 x3 x4 h r h' E hs
    unfold gX10_sortKeys at E
    by_cases el0 : lbl = 0
    · have E := (if_pos el0).symm.trans E
      exact ih 4 (364 : Int32) 0 0 0 h _ _ E hs
    have E := (if_neg el0).symm.trans E
    by_cases el1 : lbl = 4
    · have E := (if_pos el1).symm.trans E
      by_cases c1 : x1 ≤ (0 : Int32)
      · have E := (if_pos c1).symm.trans E
        exact ea_shO E hs
      have E := (if_neg c1).symm.trans E
      exact ih 10 (x1 : Int32) (x1 : Int32) 0 0 h _ _ E hs
    have E := (if_neg el1).symm.trans E
    by_cases el2 : lbl = 10
    · have E := (if_pos el2).symm.trans E
      by_cases c5 : (ea_i h (b0 + 13) 1) ≤ x2
      · have E := (if_pos c5).symm.trans E
        exact ih 4 ((x1 / (3 : Int32)) : Int32) 0 0 0 h _ _ E hs
      have E := (if_neg c5).symm.trans E
      obtain ⟨e2, E⟩ := gd_some E
      obtain ⟨f3, E⟩ := gd_some E
      obtain ⟨z4, E⟩ := gd_some E
      exact ih 28 (x1 : Int32) (x2 : Int32) ((ea_i h (Option.getD (ea_r h (b0 + 13) 3) 0) (Int32.toNatClampNeg x2)) : Int32) (x2 : Int32) h _ _ E hs
    have E := (if_neg el2).symm.trans E
    by_cases el3 : lbl = 28
    · have E := (if_pos el3).symm.trans E
      by_cases c28 : x4 < x1
      · have E := (if_pos c28).symm.trans E
        obtain ⟨e6, E⟩ := gd_some E
        obtain ⟨f7, E⟩ := gd_some E
        obtain ⟨z8, E⟩ := gd_some E
        obtain ⟨H10, eH10, E⟩ := let_some E
        have hsH10 : ShC b0 H10 := by rw [eH10]; exact (ShC_wi hs)
        exact ih 10 (x1 : Int32) ((x2 + (1 : Int32)) : Int32) 0 0 H10 _ _ E hsH10
      have E := (if_neg c28).symm.trans E
      obtain ⟨e11, E⟩ := gd_some E
      obtain ⟨f12, E⟩ := gd_some E
      obtain ⟨z13, E⟩ := gd_some E
      by_cases c27 : (ea_i h (Option.getD (ea_r h (b0 + 13) 3) 0) (Int32.toNatClampNeg (x4 - x1))) ≤ x3
      · have E := (if_pos c27).symm.trans E
        obtain ⟨e14, E⟩ := gd_some E
        obtain ⟨f15, E⟩ := gd_some E
        obtain ⟨z16, E⟩ := gd_some E
        obtain ⟨H18, eH18, E⟩ := let_some E
        have hsH18 : ShC b0 H18 := by rw [eH18]; exact (ShC_wi hs)
        exact ih 10 (x1 : Int32) ((x2 + (1 : Int32)) : Int32) 0 0 H18 _ _ E hsH18
      have E := (if_neg c27).symm.trans E
      obtain ⟨e19, E⟩ := gd_some E
      obtain ⟨f20, E⟩ := gd_some E
      obtain ⟨z21, E⟩ := gd_some E
      obtain ⟨e22, E⟩ := gd_some E
      obtain ⟨f23, E⟩ := gd_some E
      obtain ⟨z24, E⟩ := gd_some E
      obtain ⟨H26, eH26, E⟩ := let_some E
      have hsH26 : ShC b0 H26 := by rw [eH26]; exact (ShC_wi hs)
      exact ih 28 (x1 : Int32) (x2 : Int32) (x3 : Int32) ((x4 - x1) : Int32) H26 _ _ E hsH26
    have E := (if_neg el3).symm.trans E
    cases E
theorem shX10_sortKeys {b0 : Nat} {h : ea_H} (hs : ShC b0 h) : ShC b0 (wX10_sortKeys b0 h) := by
  unfold wX10_sortKeys
  cases K : qX10_sortKeys b0 h with
  | none => exact hs
  | some x => obtain ⟨x, y⟩ := x; unfold qX10_sortKeys at K; exact zX10_sortKeys _ _ _ _ _ _ _ _ _ K hs
noncomputable def gX10_takeRun (b0 : Nat) : Nat → Nat → Int64 → Int32 → Int32 → Int32 → Int32 → Int64 → ea_H → Option (Unit × ea_H)
  | 0, _, _, _, _, _, _, _, _ => none
  | f + 1, lbl, sy0, x1, x2, x3, x4, y5, h =>
    if lbl = 0 then (gX10_takeRun b0 f 3 0 (x1 : Int32) (x2 : Int32) (x3 : Int32) (0 : Int32) 0 h) else
    if lbl = 3 then (if (12 : Int32) ≤ x4 then (gd (vp_in x3 12) (ea_let (ea_wi h (b0 + 14) (Int32.toNatClampNeg x3) x2) fun H3 => (some ((), H3)))) else (gd ((ea_r h (b0 + 13) 5) = some (Option.getD (ea_r h (b0 + 13) 5) 0)) (gd (((Option.getD (ea_r h (b0 + 13) 5) 0) < ea_n h ∧ ea_c h (Option.getD (ea_r h (b0 + 13) 5) 0) = 22)) (gd (vp_in (((12 : Int32) * (x2 / (8 : Int32))) + x4) (ea_l h (Option.getD (ea_r h (b0 + 13) 5) 0))) (if (lg_cmp (ea_j h (Option.getD (ea_r h (b0 + 13) 5) 0) (Int32.toNatClampNeg (((12 : Int32) * (x2 / (8 : Int32))) + x4))) (9223372036854775807 : Int64)) = (0 : Int32) then (gX10_takeRun b0 f 48 0 (x1 : Int32) (x2 : Int32) (x3 : Int32) (x4 : Int32) ((ea_j h (Option.getD (ea_r h (b0 + 13) 5) 0) (Int32.toNatClampNeg (((12 : Int32) * (x2 / (8 : Int32))) + x4))) : Int64) h) else (gX10_takeRun b0 f 48 0 (x1 : Int32) (x2 : Int32) (x3 : Int32) (x4 : Int32) (((ea_j h (Option.getD (ea_r h (b0 + 13) 5) 0) (Int32.toNatClampNeg (((12 : Int32) * (x2 / (8 : Int32))) + x4))) + ((Int32.toInt64 (vX10_stopIn (x1 : Int32) h)) <<< (Int32.toInt64 3 &&& 63))) : Int64) h)))))) else
    if lbl = 48 then (gd (vp_in x3 12) (if (0 : Int32) ≤ (ea_i h (b0 + 14) (Int32.toNatClampNeg x3)) then (gd (vp_in x3 12) (gd ((ea_r h (b0 + 13) 4) = some (Option.getD (ea_r h (b0 + 13) 4) 0)) (gd (((Option.getD (ea_r h (b0 + 13) 4) 0) < ea_n h ∧ ea_c h (Option.getD (ea_r h (b0 + 13) 4) 0) = 22)) (gd (vp_in (((12 : Int32) * (ea_i h (b0 + 14) (Int32.toNatClampNeg x3))) + x4) (ea_l h (Option.getD (ea_r h (b0 + 13) 4) 0))) (gX10_takeRun b0 f 80 ((ea_j h (Option.getD (ea_r h (b0 + 13) 4) 0) (Int32.toNatClampNeg (((12 : Int32) * (ea_i h (b0 + 14) (Int32.toNatClampNeg x3))) + x4))) : Int64) (x1 : Int32) (x2 : Int32) (x3 : Int32) (x4 : Int32) (y5 : Int64) h))))) else (gX10_takeRun b0 f 80 (9223372036854775807 : Int64) (x1 : Int32) (x2 : Int32) (x3 : Int32) (x4 : Int32) (y5 : Int64) h))) else
    if lbl = 80 then (gd ((ea_r h (b0 + 13) 4) = some (Option.getD (ea_r h (b0 + 13) 4) 0)) (gd (((Option.getD (ea_r h (b0 + 13) 4) 0) < ea_n h ∧ ea_c h (Option.getD (ea_r h (b0 + 13) 4) 0) = 22)) (gd (vp_in (((12 : Int32) * x2) + x4) (ea_l h (Option.getD (ea_r h (b0 + 13) 4) 0))) (ea_let (ea_wj h (Option.getD (ea_r h (b0 + 13) 4) 0) (Int32.toNatClampNeg (((12 : Int32) * x2) + x4)) (if sy0 < y5 then sy0 else y5)) fun H20 => (gX10_takeRun b0 f 3 0 (x1 : Int32) (x2 : Int32) (x3 : Int32) ((x4 + (1 : Int32)) : Int32) 0 H20))))) else none
theorem tX10_takeRun {d : Nat} {b0 : Nat} {h0 : ea_H} (hd : 2 ≤ d) : ∀ (f lbl : Nat) (sy0 : Int64) (x1 : Int32) (x2 : Int32) (x3 : Int32) (x4 : Int32) (y5 : Int64) (h : ea_H) (r : Unit) (h' : ea_H), gX10_takeRun b0 f lbl sy0 x1 x2 x3 x4 y5 h = some (r, h') → ShC b0 h → (lbl = 0 → ea_W mX10_takeRun d h0 none h' 0 [(0, vR (some (b0 + 13))), (1, vI x1), (2, vI x2), (3, vI x3)] [] h) ∧ (lbl = 3 → ea_W mX10_takeRun d h0 none h' 3 [(0, vR (some (b0 + 13))), (1, vI x1), (2, vI x2), (3, vI x3), (4, vI x4)] [] h) ∧ (lbl = 48 → ea_W mX10_takeRun d h0 none h' 48 [(0, vR (some (b0 + 13))), (1, vI x1), (2, vI x2), (3, vI x3), (4, vI x4), (5, vJ y5)] [] h) ∧ (lbl = 80 → ea_W mX10_takeRun d h0 none h' 80 [(0, vR (some (b0 + 13))), (1, vI x1), (2, vI x2), (3, vI x3), (4, vI x4), (5, vJ y5)] [vJ sy0] h) := by
  intro f
  induction f with
  | zero => intro lbl sy0 x1 x2 x3 x4 y5 h r h' E; cases E
  | succ f ih =>
    intro lbl sy0 x1 x2 x3 x4 y5 h r h' E hs
    unfold gX10_takeRun at E
    refine ⟨?_, ?_⟩
    · intro el
      subst el
      have E := (if_pos rfl).symm.trans E
      refine ea_iconst (pc := 0) dX10_takeRun_0 (v := 0) rfl ?_
      refine ea_istore (pc := 1) (lv' := [(0, vR (some (b0 + 13))), (1, vI x1), (2, vI x2), (3, vI x3), (4, vI 0)]) dX10_takeRun_1 (Nat.le_of_ble_eq_true rfl) [1, 2, 3, 4, 0] rfl ?_
      exact ((ih 3 0 (x1 : Int32) (x2 : Int32) (x3 : Int32) (0 : Int32) 0 h _ _ E hs).2.1 rfl)
    refine ⟨?_, ?_⟩
    · intro el
      subst el
      have E := (if_neg (by decide)).symm.trans E
      have E := (if_pos rfl).symm.trans E
      refine ea_iload (pc := 3) dX10_takeRun_3 4 rfl ?_
      refine ea_bipush (pc := 5) dX10_takeRun_5 (v := 12) rfl ?_
      refine ea_icmp_ge (pc := 7) (tgt := 107) dX10_takeRun_7 rfl (fun c9 => ?_) (fun c9 => ?_)
      · have E := (if_pos c9).symm.trans E
        refine ea_aload_n (pc := 107) dX10_takeRun_107 rfl 0 rfl ?_
        refine ea_getR (pc := 108) dX10_takeRun_108 ec_10 (k := 7) (Nat.le_of_ble_eq_true rfl) rfl (Or.inl ew_234) (hs.1 13 (by decide)).1 (hs.1 13 (by decide)).2.1 (hs.2 13 7 rfl) ?_
        refine ea_iload_n (pc := 111) dX10_takeRun_111 rfl 3 rfl ?_
        refine ea_iload_n (pc := 112) dX10_takeRun_112 rfl 2 rfl ?_
        obtain ⟨z1, E⟩ := gd_some E
        refine ea_iast (pc := 113) dX10_takeRun_113 (hs.1 14 (by decide)).1 (hs.1 14 (by decide)).2.1 (ea_vpl (hs.1 14 (by decide)).2.2 z1) ?_
        have hs2 : ShC b0 (ea_wi h (b0 + 14) (Int32.toNatClampNeg x3) x2) := ShC_wi hs
        obtain ⟨H3, eH3, E⟩ := let_some E
        refine ea_nm eH3 ?_
        have hsH3 : ShC b0 H3 := by rw [eH3]; exact hs2
        exact ea_vretO (pc := 114) dX10_takeRun_114 rfl E
      · have E := (if_neg c9).symm.trans E
        refine ea_aload_n (pc := 10) dX10_takeRun_10 rfl 0 rfl ?_
        refine ea_getR (pc := 11) dX10_takeRun_11 ec_10 (k := 5) (Nat.le_of_ble_eq_true rfl) rfl (Or.inl ew_232) (hs.1 13 (by decide)).1 (hs.1 13 (by decide)).2.1 rfl ?_
        refine ea_bipush (pc := 14) dX10_takeRun_14 (v := 12) rfl ?_
        refine ea_iload_n (pc := 16) dX10_takeRun_16 rfl 2 rfl ?_
        refine ea_bipush (pc := 17) dX10_takeRun_17 (v := 8) rfl ?_
        refine ea_idiv (pc := 19) dX10_takeRun_19 (by decide) ?_
        refine ea_imul (pc := 20) dX10_takeRun_20 ?_
        refine ea_iload (pc := 21) dX10_takeRun_21 4 rfl ?_
        refine ea_iadd (pc := 23) dX10_takeRun_23 ?_
        obtain ⟨e4, E⟩ := gd_some E
        obtain ⟨f5, E⟩ := gd_some E
        obtain ⟨z6, E⟩ := gd_some E
        refine ea_deref1 e4 ?_
        refine ea_lald (pc := 24) dX10_takeRun_24 f5.1 f5.2 z6 ?_
        refine ea_lstore (pc := 25) (lv' := [(0, vR (some (b0 + 13))), (1, vI x1), (2, vI x2), (3, vI x3), (4, vI x4), (5, vJ (ea_j h (Option.getD (ea_r h (b0 + 13) 5) 0) (Int32.toNatClampNeg (((12 : Int32) * (x2 / (8 : Int32))) + x4))))]) dX10_takeRun_25 (Nat.le_of_ble_eq_true rfl) [1, 2, 3, 4, 5, 0] rfl ?_
        refine ea_lload (pc := 27) dX10_takeRun_27 5 rfl ?_
        refine ea_ldc2 (pc := 29) dX10_takeRun_29 ew_615 ?_
        refine ea_lcmp (pc := 32) dX10_takeRun_32 ?_
        refine ea_if_eq (pc := 33) (tgt := 48) dX10_takeRun_33 rfl (fun c8 => ?_) (fun c8 => ?_)
        · have E := (if_pos c8).symm.trans E
          exact ((ih 48 0 (x1 : Int32) (x2 : Int32) (x3 : Int32) (x4 : Int32) ((ea_j h (Option.getD (ea_r h (b0 + 13) 5) 0) (Int32.toNatClampNeg (((12 : Int32) * (x2 / (8 : Int32))) + x4))) : Int64) h _ _ E hs).2.2.1 rfl)
        · have E := (if_neg c8).symm.trans E
          refine ea_lload (pc := 36) dX10_takeRun_36 5 rfl ?_
          refine ea_iload_n (pc := 38) dX10_takeRun_38 rfl 1 rfl ?_
          refine ea_callS (pc := 39) (d' := d - 1) (As := [vI x1]) (st := [vJ (ea_j h (Option.getD (ea_r h (b0 + 13) 5) 0) (Int32.toNatClampNeg (((12 : Int32) * (x2 / (8 : Int32))) + x4)))]) dX10_takeRun_39 kX10_stopIn (sX10_stopIn (d := d - 1) (by omega)) (by omega) rfl (Nat.le_of_ble_eq_true rfl) ew_599 ew_600 ?_
          refine ea_i2l (pc := 42) dX10_takeRun_42 ?_
          refine ea_iconst (pc := 43) dX10_takeRun_43 (v := 3) rfl ?_
          refine ea_lshl (pc := 44) dX10_takeRun_44 ?_
          refine ea_ladd (pc := 45) dX10_takeRun_45 ?_
          refine ea_lstore (pc := 46) (lv' := [(0, vR (some (b0 + 13))), (1, vI x1), (2, vI x2), (3, vI x3), (4, vI x4), (5, vJ ((ea_j h (Option.getD (ea_r h (b0 + 13) 5) 0) (Int32.toNatClampNeg (((12 : Int32) * (x2 / (8 : Int32))) + x4))) + ((Int32.toInt64 (vX10_stopIn (x1 : Int32) h)) <<< (Int32.toInt64 3 &&& 63))))]) dX10_takeRun_46 (Nat.le_of_ble_eq_true rfl) [1, 2, 3, 4, 5, 0] rfl ?_
          exact ((ih 48 0 (x1 : Int32) (x2 : Int32) (x3 : Int32) (x4 : Int32) (((ea_j h (Option.getD (ea_r h (b0 + 13) 5) 0) (Int32.toNatClampNeg (((12 : Int32) * (x2 / (8 : Int32))) + x4))) + ((Int32.toInt64 (vX10_stopIn (x1 : Int32) h)) <<< (Int32.toInt64 3 &&& 63))) : Int64) h _ _ E hs).2.2.1 rfl)
    refine ⟨?_, ?_⟩
    · intro el
      subst el
      have E := (if_neg (by decide)).symm.trans E
      have E := (if_neg (by decide)).symm.trans E
      have E := (if_pos rfl).symm.trans E
      refine ea_aload_n (pc := 48) dX10_takeRun_48 rfl 0 rfl ?_
      refine ea_getR (pc := 49) dX10_takeRun_49 ec_10 (k := 7) (Nat.le_of_ble_eq_true rfl) rfl (Or.inl ew_234) (hs.1 13 (by decide)).1 (hs.1 13 (by decide)).2.1 (hs.2 13 7 rfl) ?_
      refine ea_iload_n (pc := 52) dX10_takeRun_52 rfl 3 rfl ?_
      obtain ⟨z10, E⟩ := gd_some E
      refine ea_iald (pc := 53) dX10_takeRun_53 (hs.1 14 (by decide)).1 (hs.1 14 (by decide)).2.1 (ea_vpl (hs.1 14 (by decide)).2.2 z10) ?_
      refine ea_if_ge (pc := 54) (tgt := 63) dX10_takeRun_54 rfl (fun c15 => ?_) (fun c15 => ?_)
      · have E := (if_pos c15).symm.trans E
        refine ea_aload_n (pc := 63) dX10_takeRun_63 rfl 0 rfl ?_
        refine ea_getR (pc := 64) dX10_takeRun_64 ec_10 (k := 4) (Nat.le_of_ble_eq_true rfl) rfl (Or.inl ew_231) (hs.1 13 (by decide)).1 (hs.1 13 (by decide)).2.1 rfl ?_
        refine ea_bipush (pc := 67) dX10_takeRun_67 (v := 12) rfl ?_
        refine ea_aload_n (pc := 69) dX10_takeRun_69 rfl 0 rfl ?_
        refine ea_getR (pc := 70) dX10_takeRun_70 ec_10 (k := 7) (Nat.le_of_ble_eq_true rfl) rfl (Or.inl ew_234) (hs.1 13 (by decide)).1 (hs.1 13 (by decide)).2.1 (hs.2 13 7 rfl) ?_
        refine ea_iload_n (pc := 73) dX10_takeRun_73 rfl 3 rfl ?_
        obtain ⟨z11, E⟩ := gd_some E
        refine ea_iald (pc := 74) dX10_takeRun_74 (hs.1 14 (by decide)).1 (hs.1 14 (by decide)).2.1 (ea_vpl (hs.1 14 (by decide)).2.2 z11) ?_
        refine ea_imul (pc := 75) dX10_takeRun_75 ?_
        refine ea_iload (pc := 76) dX10_takeRun_76 4 rfl ?_
        refine ea_iadd (pc := 78) dX10_takeRun_78 ?_
        obtain ⟨e12, E⟩ := gd_some E
        obtain ⟨f13, E⟩ := gd_some E
        obtain ⟨z14, E⟩ := gd_some E
        refine ea_deref1 e12 ?_
        refine ea_lald (pc := 79) dX10_takeRun_79 f13.1 f13.2 z14 ?_
        exact ((ih 80 ((ea_j h (Option.getD (ea_r h (b0 + 13) 4) 0) (Int32.toNatClampNeg (((12 : Int32) * (ea_i h (b0 + 14) (Int32.toNatClampNeg x3))) + x4))) : Int64) (x1 : Int32) (x2 : Int32) (x3 : Int32) (x4 : Int32) (y5 : Int64) h _ _ E hs).2.2.2 rfl)
      · have E := (if_neg c15).symm.trans E
        refine ea_ldc2 (pc := 57) dX10_takeRun_57 ew_615 ?_
        refine ea_goto (pc := 60) (tgt := 80) dX10_takeRun_60 rfl ?_
        exact ((ih 80 (9223372036854775807 : Int64) (x1 : Int32) (x2 : Int32) (x3 : Int32) (x4 : Int32) (y5 : Int64) h _ _ E hs).2.2.2 rfl)
    intro el
    subst el
    have E := (if_neg (by decide)).symm.trans E
    have E := (if_neg (by decide)).symm.trans E
    have E := (if_neg (by decide)).symm.trans E
    have E := (if_pos rfl).symm.trans E
    refine ea_lstore (pc := 80) (lv' := [(0, vR (some (b0 + 13))), (1, vI x1), (2, vI x2), (3, vI x3), (4, vI x4), (5, vJ y5), (7, vJ sy0)]) dX10_takeRun_80 (Nat.le_of_ble_eq_true rfl) [1, 2, 3, 4, 5, 6, 0] rfl ?_
    refine ea_aload_n (pc := 82) dX10_takeRun_82 rfl 0 rfl ?_
    refine ea_getR (pc := 83) dX10_takeRun_83 ec_10 (k := 4) (Nat.le_of_ble_eq_true rfl) rfl (Or.inl ew_231) (hs.1 13 (by decide)).1 (hs.1 13 (by decide)).2.1 rfl ?_
    refine ea_bipush (pc := 86) dX10_takeRun_86 (v := 12) rfl ?_
    refine ea_iload_n (pc := 88) dX10_takeRun_88 rfl 2 rfl ?_
    refine ea_imul (pc := 89) dX10_takeRun_89 ?_
    refine ea_iload (pc := 90) dX10_takeRun_90 4 rfl ?_
    refine ea_iadd (pc := 92) dX10_takeRun_92 ?_
    refine ea_lload (pc := 93) dX10_takeRun_93 5 rfl ?_
    refine ea_lload (pc := 95) dX10_takeRun_95 6 rfl ?_
    refine ea_mminJ (pc := 97) dX10_takeRun_97 ew_623 ew_624 ew_112 ew_625 (by omega) (Nat.le_of_ble_eq_true rfl) ?_
    obtain ⟨e16, E⟩ := gd_some E
    obtain ⟨f17, E⟩ := gd_some E
    obtain ⟨z18, E⟩ := gd_some E
    refine ea_deref2 e16 ?_
    refine ea_last (pc := 100) dX10_takeRun_100 f17.1 f17.2 z18 ?_
    have hs19 : ShC b0 (ea_wj h (Option.getD (ea_r h (b0 + 13) 4) 0) (Int32.toNatClampNeg (((12 : Int32) * x2) + x4)) (if sy0 < y5 then sy0 else y5)) := ShC_wj hs
    obtain ⟨H20, eH20, E⟩ := let_some E
    refine ea_nm eH20 ?_
    have hsH20 : ShC b0 H20 := by rw [eH20]; exact hs19
    refine ea_iinc (pc := 101) (v := 1) (lv' := [(0, vR (some (b0 + 13))), (1, vI x1), (2, vI x2), (3, vI x3), (4, vI (x4 + (1 : Int32)))]) dX10_takeRun_101 4 rfl rfl (Nat.le_of_ble_eq_true rfl) [1, 2, 3, 4, 0] rfl ?_
    refine ea_goto (pc := 104) (tgt := 3) dX10_takeRun_104 rfl ?_
    exact ((ih 3 0 (x1 : Int32) (x2 : Int32) (x3 : Int32) ((x4 + (1 : Int32)) : Int32) 0 H20 _ _ E hsH20).2.1 rfl)
noncomputable def qX10_takeRun (b0 : Nat) (x1 : Int32) (x2 : Int32) (x3 : Int32) (h : ea_H) : Option (Unit × ea_H) := gX10_takeRun b0 1000000000 0 0 x1 x2 x3 0 0 h
def okX10_takeRun (b0 : Nat) (x1 : Int32) (x2 : Int32) (x3 : Int32) (h : ea_H) : Prop := ∃ x, qX10_takeRun b0 x1 x2 x3 h = some x
noncomputable def wX10_takeRun (b0 : Nat) (x1 : Int32) (x2 : Int32) (x3 : Int32) (h : ea_H) : ea_H := ((qX10_takeRun b0 x1 x2 x3 h).getD ((), h)).2
theorem sX10_takeRun {d : Nat} {b0 : Nat} {x1 : Int32} {x2 : Int32} {x3 : Int32} {h : ea_H} (hd : 2 ≤ d) (hs : ShC b0 h) (K : okX10_takeRun b0 x1 x2 x3 h) : ea_Met mX10_takeRun d [vR (some (b0 + 13)), vI x1, vI x2, vI x3] h none (wX10_takeRun b0 x1 x2 x3 h) := by
  obtain ⟨⟨x, y⟩, K⟩ := K
  unfold wX10_takeRun
  rw [K]
  unfold qX10_takeRun at K
  exact ea_enter rfl (Nat.le_of_ble_eq_true rfl) ((tX10_takeRun hd 1000000000 0 0 x1 x2 x3 0 0 h x y K hs).1 rfl)
theorem zX10_takeRun {b0 : Nat} : ∀ (f lbl : Nat) (sy0 : Int64) (x1 : Int32) (x2 : Int32) (x3 : Int32) (x4 : Int32) (y5 : Int64) (h : ea_H) (r : Unit) (h' : ea_H), gX10_takeRun b0 f lbl sy0 x1 x2 x3 x4 y5 h = some (r, h') → ShC b0 h → ShC b0 h' := by
  intro f
  induction f with
  | zero => intro lbl sy0 x1 x2 x3 x4 y5 h r h' E; cases E
  | succ f ih =>
    intro lbl sy0 x1 x2 x3 x4 y5 h r h' E hs
    unfold gX10_takeRun at E
    by_cases el0 : lbl = 0
    · have E := (if_pos el0).symm.trans E
      exact ih 3 0 (x1 : Int32) (x2 : Int32) (x3 : Int32) (0 : Int32) 0 h _ _ E hs
    have E := (if_neg el0).symm.trans E
    by_cases el1 : lbl = 3
    · have E := (if_pos el1).symm.trans E
      by_cases c9 : (12 : Int32) ≤ x4
      · have E := (if_pos c9).symm.trans E
        obtain ⟨z1, E⟩ := gd_some E
        obtain ⟨H3, eH3, E⟩ := let_some E
        have hsH3 : ShC b0 H3 := by rw [eH3]; exact (ShC_wi hs)
        exact ea_shO E hsH3
      have E := (if_neg c9).symm.trans E
      obtain ⟨e4, E⟩ := gd_some E
      obtain ⟨f5, E⟩ := gd_some E
      obtain ⟨z6, E⟩ := gd_some E
      by_cases c8 : (lg_cmp (ea_j h (Option.getD (ea_r h (b0 + 13) 5) 0) (Int32.toNatClampNeg (((12 : Int32) * (x2 / (8 : Int32))) + x4))) (9223372036854775807 : Int64)) = (0 : Int32)
      · have E := (if_pos c8).symm.trans E
        exact ih 48 0 (x1 : Int32) (x2 : Int32) (x3 : Int32) (x4 : Int32) ((ea_j h (Option.getD (ea_r h (b0 + 13) 5) 0) (Int32.toNatClampNeg (((12 : Int32) * (x2 / (8 : Int32))) + x4))) : Int64) h _ _ E hs
      have E := (if_neg c8).symm.trans E
      exact ih 48 0 (x1 : Int32) (x2 : Int32) (x3 : Int32) (x4 : Int32) (((ea_j h (Option.getD (ea_r h (b0 + 13) 5) 0) (Int32.toNatClampNeg (((12 : Int32) * (x2 / (8 : Int32))) + x4))) + ((Int32.toInt64 (vX10_stopIn (x1 : Int32) h)) <<< (Int32.toInt64 3 &&& 63))) : Int64) h _ _ E hs
    have E := (if_neg el1).symm.trans E
    by_cases el2 : lbl = 48
    · have E := (if_pos el2).symm.trans E
      obtain ⟨z10, E⟩ := gd_some E
      by_cases c15 : (0 : Int32) ≤ (ea_i h (b0 + 14) (Int32.toNatClampNeg x3))
      · have E := (if_pos c15).symm.trans E
        obtain ⟨z11, E⟩ := gd_some E
        obtain ⟨e12, E⟩ := gd_some E
        obtain ⟨f13, E⟩ := gd_some E
        obtain ⟨z14, E⟩ := gd_some E
        exact ih 80 ((ea_j h (Option.getD (ea_r h (b0 + 13) 4) 0) (Int32.toNatClampNeg (((12 : Int32) * (ea_i h (b0 + 14) (Int32.toNatClampNeg x3))) + x4))) : Int64) (x1 : Int32) (x2 : Int32) (x3 : Int32) (x4 : Int32) (y5 : Int64) h _ _ E hs
      have E := (if_neg c15).symm.trans E
      exact ih 80 (9223372036854775807 : Int64) (x1 : Int32) (x2 : Int32) (x3 : Int32) (x4 : Int32) (y5 : Int64) h _ _ E hs
    have E := (if_neg el2).symm.trans E
    by_cases el3 : lbl = 80
    · have E := (if_pos el3).symm.trans E
      obtain ⟨e16, E⟩ := gd_some E
      obtain ⟨f17, E⟩ := gd_some E
      obtain ⟨z18, E⟩ := gd_some E
      obtain ⟨H20, eH20, E⟩ := let_some E
      have hsH20 : ShC b0 H20 := by rw [eH20]; exact (ShC_wj hs)
      exact ih 3 0 (x1 : Int32) (x2 : Int32) (x3 : Int32) ((x4 + (1 : Int32)) : Int32) 0 H20 _ _ E hsH20
    have E := (if_neg el3).symm.trans E
    cases E
theorem shX10_takeRun {b0 : Nat} {x1 : Int32} {x2 : Int32} {x3 : Int32} {h : ea_H} (hs : ShC b0 h) : ShC b0 (wX10_takeRun b0 x1 x2 x3 h) := by
  unfold wX10_takeRun
  cases K : qX10_takeRun b0 x1 x2 x3 h with
  | none => exact hs
  | some x => obtain ⟨x, y⟩ := x; unfold qX10_takeRun at K; exact zX10_takeRun _ _ _ _ _ _ _ _ _ _ _ K hs
noncomputable def gX10_leaveRun (b0 : Nat) : Nat → Nat → Int64 → Int32 → Int32 → Int32 → Int32 → Int64 → Int64 → ea_H → Option (Unit × ea_H)
  | 0, _, _, _, _, _, _, _, _, _ => none
  | f + 1, lbl, sy0, x1, x2, x3, x6, y4, y9, h =>
    if lbl = 0 then (gX10_leaveRun b0 f 26 0 (x1 : Int32) (x2 : Int32) (x3 : Int32) (0 : Int32) ((Int32.toInt64 ((((vX10_trainIn (x1 : Int32) h) <<< ((9 : Int32) &&& 31)) ||| ((vX10_dayIn (x1 : Int32) h) <<< ((6 : Int32) &&& 31))) ||| (vX10_stopIn (x1 : Int32) h))) : Int64) 0 h) else
    if lbl = 26 then (if (12 : Int32) ≤ x6 then (some ((), h)) else (gd (vp_in x3 12) (if (0 : Int32) ≤ (ea_i h (b0 + 14) (Int32.toNatClampNeg x3)) then (gd (vp_in x3 12) (gd ((ea_r h (b0 + 13) 4) = some (Option.getD (ea_r h (b0 + 13) 4) 0)) (gd (((Option.getD (ea_r h (b0 + 13) 4) 0) < ea_n h ∧ ea_c h (Option.getD (ea_r h (b0 + 13) 4) 0) = 22)) (gd (vp_in (((12 : Int32) * (ea_i h (b0 + 14) (Int32.toNatClampNeg x3))) + x6) (ea_l h (Option.getD (ea_r h (b0 + 13) 4) 0))) (gX10_leaveRun b0 f 65 ((ea_j h (Option.getD (ea_r h (b0 + 13) 4) 0) (Int32.toNatClampNeg (((12 : Int32) * (ea_i h (b0 + 14) (Int32.toNatClampNeg x3))) + x6))) : Int64) (x1 : Int32) (x2 : Int32) (x3 : Int32) (x6 : Int32) (y4 : Int64) 0 h))))) else (gX10_leaveRun b0 f 65 (9223372036854775807 : Int64) (x1 : Int32) (x2 : Int32) (x3 : Int32) (x6 : Int32) (y4 : Int64) 0 h)))) else
    if lbl = 65 then (if x6 = x3 then (gX10_leaveRun b0 f 122 0 (x1 : Int32) (x2 : Int32) (x3 : Int32) (x6 : Int32) (y4 : Int64) (((((Int32.toInt64 (vX10_minuteIn (x1 : Int32) h)) <<< (Int32.toInt64 21 &&& 63)) ||| (8192 : Int64)) ||| y4) : Int64) h) else (if (lg_cmp sy0 (9223372036854775807 : Int64)) = (0 : Int32) then (gX10_leaveRun b0 f 122 0 (x1 : Int32) (x2 : Int32) (x3 : Int32) (x6 : Int32) (y4 : Int64) (9223372036854775807 : Int64) h) else (gX10_leaveRun b0 f 122 0 (x1 : Int32) (x2 : Int32) (x3 : Int32) (x6 : Int32) (y4 : Int64) (((((sy0 >>> (Int32.toInt64 13 &&& 63)) + (1 : Int64)) <<< (Int32.toInt64 13 &&& 63)) ||| y4) : Int64) h))) else
    if lbl = 122 then (gd ((ea_r h (b0 + 13) 5) = some (Option.getD (ea_r h (b0 + 13) 5) 0)) (gd (((Option.getD (ea_r h (b0 + 13) 5) 0) < ea_n h ∧ ea_c h (Option.getD (ea_r h (b0 + 13) 5) 0) = 22)) (gd (vp_in (((12 : Int32) * (x2 / (8 : Int32))) + x6) (ea_l h (Option.getD (ea_r h (b0 + 13) 5) 0))) (gd ((ea_r h (b0 + 13) 5) = some (Option.getD (ea_r h (b0 + 13) 5) 0)) (gd (((Option.getD (ea_r h (b0 + 13) 5) 0) < ea_n h ∧ ea_c h (Option.getD (ea_r h (b0 + 13) 5) 0) = 22)) (gd (vp_in (((12 : Int32) * (x2 / (8 : Int32))) + x6) (ea_l h (Option.getD (ea_r h (b0 + 13) 5) 0))) (ea_let (ea_wj h (Option.getD (ea_r h (b0 + 13) 5) 0) (Int32.toNatClampNeg (((12 : Int32) * (x2 / (8 : Int32))) + x6)) (if y9 < (ea_j h (Option.getD (ea_r h (b0 + 13) 5) 0) (Int32.toNatClampNeg (((12 : Int32) * (x2 / (8 : Int32))) + x6))) then y9 else (ea_j h (Option.getD (ea_r h (b0 + 13) 5) 0) (Int32.toNatClampNeg (((12 : Int32) * (x2 / (8 : Int32))) + x6))))) fun H21 => (gX10_leaveRun b0 f 26 0 (x1 : Int32) (x2 : Int32) (x3 : Int32) ((x6 + (1 : Int32)) : Int32) (y4 : Int64) 0 H21)))))))) else none
theorem tX10_leaveRun {d : Nat} {b0 : Nat} {h0 : ea_H} (hd : 2 ≤ d) : ∀ (f lbl : Nat) (sy0 : Int64) (x1 : Int32) (x2 : Int32) (x3 : Int32) (x6 : Int32) (y4 : Int64) (y9 : Int64) (h : ea_H) (r : Unit) (h' : ea_H), gX10_leaveRun b0 f lbl sy0 x1 x2 x3 x6 y4 y9 h = some (r, h') → ShC b0 h → (lbl = 0 → ea_W mX10_leaveRun d h0 none h' 0 [(0, vR (some (b0 + 13))), (1, vI x1), (2, vI x2), (3, vI x3)] [] h) ∧ (lbl = 26 → ea_W mX10_leaveRun d h0 none h' 26 [(0, vR (some (b0 + 13))), (1, vI x1), (2, vI x2), (3, vI x3), (4, vJ y4), (6, vI x6)] [] h) ∧ (lbl = 65 → ea_W mX10_leaveRun d h0 none h' 65 [(0, vR (some (b0 + 13))), (1, vI x1), (2, vI x2), (3, vI x3), (4, vJ y4), (6, vI x6)] [vJ sy0] h) ∧ (lbl = 122 → ea_W mX10_leaveRun d h0 none h' 122 [(0, vR (some (b0 + 13))), (1, vI x1), (2, vI x2), (3, vI x3), (4, vJ y4), (6, vI x6), (9, vJ y9)] [] h) := by
  intro f
  induction f with
  | zero => intro lbl sy0 x1 x2 x3 x6 y4 y9 h r h' E; cases E
  | succ f ih =>
    intro lbl sy0 x1 x2 x3 x6 y4 y9 h r h' E hs
    unfold gX10_leaveRun at E
    refine ⟨?_, ?_⟩
    · intro el
      subst el
      have E := (if_pos rfl).symm.trans E
      refine ea_iload_n (pc := 0) dX10_leaveRun_0 rfl 1 rfl ?_
      refine ea_callS (pc := 1) (d' := d - 1) (As := [vI x1]) (st := []) dX10_leaveRun_1 kX10_trainIn (sX10_trainIn (d := d - 1) (by omega)) (by omega) rfl (Nat.le_of_ble_eq_true rfl) ew_596 ew_597 ?_
      refine ea_bipush (pc := 4) dX10_leaveRun_4 (v := 9) rfl ?_
      refine ea_ishl (pc := 6) dX10_leaveRun_6 ?_
      refine ea_iload_n (pc := 7) dX10_leaveRun_7 rfl 1 rfl ?_
      refine ea_callS (pc := 8) (d' := d - 1) (As := [vI x1]) (st := [vI ((vX10_trainIn (x1 : Int32) h) <<< ((9 : Int32) &&& 31))]) dX10_leaveRun_8 kX10_dayIn (sX10_dayIn (d := d - 1) (by omega)) (by omega) rfl (Nat.le_of_ble_eq_true rfl) ew_608 ew_609 ?_
      refine ea_bipush (pc := 11) dX10_leaveRun_11 (v := 6) rfl ?_
      refine ea_ishl (pc := 13) dX10_leaveRun_13 ?_
      refine ea_ior (pc := 14) dX10_leaveRun_14 ?_
      refine ea_iload_n (pc := 15) dX10_leaveRun_15 rfl 1 rfl ?_
      refine ea_callS (pc := 16) (d' := d - 1) (As := [vI x1]) (st := [vI (((vX10_trainIn (x1 : Int32) h) <<< ((9 : Int32) &&& 31)) ||| ((vX10_dayIn (x1 : Int32) h) <<< ((6 : Int32) &&& 31)))]) dX10_leaveRun_16 kX10_stopIn (sX10_stopIn (d := d - 1) (by omega)) (by omega) rfl (Nat.le_of_ble_eq_true rfl) ew_599 ew_600 ?_
      refine ea_ior (pc := 19) dX10_leaveRun_19 ?_
      refine ea_i2l (pc := 20) dX10_leaveRun_20 ?_
      refine ea_lstore (pc := 21) (lv' := [(0, vR (some (b0 + 13))), (1, vI x1), (2, vI x2), (3, vI x3), (4, vJ (Int32.toInt64 ((((vX10_trainIn (x1 : Int32) h) <<< ((9 : Int32) &&& 31)) ||| ((vX10_dayIn (x1 : Int32) h) <<< ((6 : Int32) &&& 31))) ||| (vX10_stopIn (x1 : Int32) h))))]) dX10_leaveRun_21 (Nat.le_of_ble_eq_true rfl) [1, 2, 3, 4, 0] rfl ?_
      refine ea_iconst (pc := 23) dX10_leaveRun_23 (v := 0) rfl ?_
      refine ea_istore (pc := 24) (lv' := [(0, vR (some (b0 + 13))), (1, vI x1), (2, vI x2), (3, vI x3), (4, vJ (Int32.toInt64 ((((vX10_trainIn (x1 : Int32) h) <<< ((9 : Int32) &&& 31)) ||| ((vX10_dayIn (x1 : Int32) h) <<< ((6 : Int32) &&& 31))) ||| (vX10_stopIn (x1 : Int32) h)))), (6, vI 0)]) dX10_leaveRun_24 (Nat.le_of_ble_eq_true rfl) [1, 2, 3, 4, 5, 0] rfl ?_
      exact ((ih 26 0 (x1 : Int32) (x2 : Int32) (x3 : Int32) (0 : Int32) ((Int32.toInt64 ((((vX10_trainIn (x1 : Int32) h) <<< ((9 : Int32) &&& 31)) ||| ((vX10_dayIn (x1 : Int32) h) <<< ((6 : Int32) &&& 31))) ||| (vX10_stopIn (x1 : Int32) h))) : Int64) 0 h _ _ E hs).2.1 rfl)
    refine ⟨?_, ?_⟩
    · intro el
      subst el
      have E := (if_neg (by decide)).symm.trans E
      have E := (if_pos rfl).symm.trans E
      refine ea_iload (pc := 26) dX10_leaveRun_26 5 rfl ?_
      refine ea_bipush (pc := 28) dX10_leaveRun_28 (v := 12) rfl ?_
      refine ea_icmp_ge (pc := 30) (tgt := 159) dX10_leaveRun_30 rfl (fun c10 => ?_) (fun c10 => ?_)
      · have E := (if_pos c10).symm.trans E
        exact ea_vretO (pc := 159) dX10_leaveRun_159 rfl E
      · have E := (if_neg c10).symm.trans E
        refine ea_aload_n (pc := 33) dX10_leaveRun_33 rfl 0 rfl ?_
        refine ea_getR (pc := 34) dX10_leaveRun_34 ec_10 (k := 7) (Nat.le_of_ble_eq_true rfl) rfl (Or.inl ew_234) (hs.1 13 (by decide)).1 (hs.1 13 (by decide)).2.1 (hs.2 13 7 rfl) ?_
        refine ea_iload_n (pc := 37) dX10_leaveRun_37 rfl 3 rfl ?_
        obtain ⟨z4, E⟩ := gd_some E
        refine ea_iald (pc := 38) dX10_leaveRun_38 (hs.1 14 (by decide)).1 (hs.1 14 (by decide)).2.1 (ea_vpl (hs.1 14 (by decide)).2.2 z4) ?_
        refine ea_if_ge (pc := 39) (tgt := 48) dX10_leaveRun_39 rfl (fun c9 => ?_) (fun c9 => ?_)
        · have E := (if_pos c9).symm.trans E
          refine ea_aload_n (pc := 48) dX10_leaveRun_48 rfl 0 rfl ?_
          refine ea_getR (pc := 49) dX10_leaveRun_49 ec_10 (k := 4) (Nat.le_of_ble_eq_true rfl) rfl (Or.inl ew_231) (hs.1 13 (by decide)).1 (hs.1 13 (by decide)).2.1 rfl ?_
          refine ea_bipush (pc := 52) dX10_leaveRun_52 (v := 12) rfl ?_
          refine ea_aload_n (pc := 54) dX10_leaveRun_54 rfl 0 rfl ?_
          refine ea_getR (pc := 55) dX10_leaveRun_55 ec_10 (k := 7) (Nat.le_of_ble_eq_true rfl) rfl (Or.inl ew_234) (hs.1 13 (by decide)).1 (hs.1 13 (by decide)).2.1 (hs.2 13 7 rfl) ?_
          refine ea_iload_n (pc := 58) dX10_leaveRun_58 rfl 3 rfl ?_
          obtain ⟨z5, E⟩ := gd_some E
          refine ea_iald (pc := 59) dX10_leaveRun_59 (hs.1 14 (by decide)).1 (hs.1 14 (by decide)).2.1 (ea_vpl (hs.1 14 (by decide)).2.2 z5) ?_
          refine ea_imul (pc := 60) dX10_leaveRun_60 ?_
          refine ea_iload (pc := 61) dX10_leaveRun_61 5 rfl ?_
          refine ea_iadd (pc := 63) dX10_leaveRun_63 ?_
          obtain ⟨e6, E⟩ := gd_some E
          obtain ⟨f7, E⟩ := gd_some E
          obtain ⟨z8, E⟩ := gd_some E
          refine ea_deref1 e6 ?_
          refine ea_lald (pc := 64) dX10_leaveRun_64 f7.1 f7.2 z8 ?_
          exact ((ih 65 ((ea_j h (Option.getD (ea_r h (b0 + 13) 4) 0) (Int32.toNatClampNeg (((12 : Int32) * (ea_i h (b0 + 14) (Int32.toNatClampNeg x3))) + x6))) : Int64) (x1 : Int32) (x2 : Int32) (x3 : Int32) (x6 : Int32) (y4 : Int64) 0 h _ _ E hs).2.2.1 rfl)
        · have E := (if_neg c9).symm.trans E
          refine ea_ldc2 (pc := 42) dX10_leaveRun_42 ew_615 ?_
          refine ea_goto (pc := 45) (tgt := 65) dX10_leaveRun_45 rfl ?_
          exact ((ih 65 (9223372036854775807 : Int64) (x1 : Int32) (x2 : Int32) (x3 : Int32) (x6 : Int32) (y4 : Int64) 0 h _ _ E hs).2.2.1 rfl)
    refine ⟨?_, ?_⟩
    · intro el
      subst el
      have E := (if_neg (by decide)).symm.trans E
      have E := (if_neg (by decide)).symm.trans E
      have E := (if_pos rfl).symm.trans E
      refine ea_lstore (pc := 65) (lv' := [(0, vR (some (b0 + 13))), (1, vI x1), (2, vI x2), (3, vI x3), (4, vJ y4), (6, vI x6), (7, vJ sy0)]) dX10_leaveRun_65 (Nat.le_of_ble_eq_true rfl) [1, 2, 3, 4, 5, 6, 0] rfl ?_
      refine ea_ldc2 (pc := 67) dX10_leaveRun_67 ew_615 ?_
      refine ea_lstore (pc := 70) (lv' := [(0, vR (some (b0 + 13))), (1, vI x1), (2, vI x2), (3, vI x3), (4, vJ y4), (6, vI x6), (7, vJ sy0), (9, vJ 9223372036854775807)]) dX10_leaveRun_70 (Nat.le_of_ble_eq_true rfl) [1, 2, 3, 4, 5, 6, 7, 0] rfl ?_
      refine ea_iload (pc := 72) dX10_leaveRun_72 5 rfl ?_
      refine ea_iload_n (pc := 74) dX10_leaveRun_74 rfl 3 rfl ?_
      refine ea_icmp_ne (pc := 75) (tgt := 98) dX10_leaveRun_75 rfl (fun c13 => ?_) (fun c13 => ?_)
      · have E := (if_neg c13).symm.trans E
        refine ea_lload (pc := 98) dX10_leaveRun_98 6 rfl ?_
        refine ea_ldc2 (pc := 100) dX10_leaveRun_100 ew_615 ?_
        refine ea_lcmp (pc := 103) dX10_leaveRun_103 ?_
        refine ea_if_eq (pc := 104) (tgt := 122) dX10_leaveRun_104 rfl (fun c11 => ?_) (fun c11 => ?_)
        · have E := (if_pos c11).symm.trans E
          exact (ea_fewer [0, 1, 2, 3, 4, 5, 7] rfl ((ih 122 0 (x1 : Int32) (x2 : Int32) (x3 : Int32) (x6 : Int32) (y4 : Int64) (9223372036854775807 : Int64) h _ _ E hs).2.2.2 rfl))
        · have E := (if_neg c11).symm.trans E
          refine ea_lload (pc := 107) dX10_leaveRun_107 6 rfl ?_
          refine ea_bipush (pc := 109) dX10_leaveRun_109 (v := 13) rfl ?_
          refine ea_lshr (pc := 111) dX10_leaveRun_111 ?_
          refine ea_lconst (pc := 112) dX10_leaveRun_112 (v := 1) rfl ?_
          refine ea_ladd (pc := 113) dX10_leaveRun_113 ?_
          refine ea_bipush (pc := 114) dX10_leaveRun_114 (v := 13) rfl ?_
          refine ea_lshl (pc := 116) dX10_leaveRun_116 ?_
          refine ea_lload (pc := 117) dX10_leaveRun_117 4 rfl ?_
          refine ea_lor (pc := 119) dX10_leaveRun_119 ?_
          refine ea_lstore (pc := 120) (lv' := [(0, vR (some (b0 + 13))), (1, vI x1), (2, vI x2), (3, vI x3), (4, vJ y4), (6, vI x6), (9, vJ ((((sy0 >>> (Int32.toInt64 13 &&& 63)) + (1 : Int64)) <<< (Int32.toInt64 13 &&& 63)) ||| y4))]) dX10_leaveRun_120 (Nat.le_of_ble_eq_true rfl) [1, 2, 3, 4, 5, 6, 0] rfl ?_
          exact ((ih 122 0 (x1 : Int32) (x2 : Int32) (x3 : Int32) (x6 : Int32) (y4 : Int64) (((((sy0 >>> (Int32.toInt64 13 &&& 63)) + (1 : Int64)) <<< (Int32.toInt64 13 &&& 63)) ||| y4) : Int64) h _ _ E hs).2.2.2 rfl)
      · have E := (if_pos c13).symm.trans E
        refine ea_iload_n (pc := 78) dX10_leaveRun_78 rfl 1 rfl ?_
        refine ea_callS (pc := 79) (d' := d - 1) (As := [vI x1]) (st := []) dX10_leaveRun_79 kX10_minuteIn (sX10_minuteIn (d := d - 1) (by omega)) (by omega) rfl (Nat.le_of_ble_eq_true rfl) ew_602 ew_603 ?_
        refine ea_i2l (pc := 82) dX10_leaveRun_82 ?_
        refine ea_bipush (pc := 83) dX10_leaveRun_83 (v := 21) rfl ?_
        refine ea_lshl (pc := 85) dX10_leaveRun_85 ?_
        refine ea_ldc2 (pc := 86) dX10_leaveRun_86 ew_630 ?_
        refine ea_lor (pc := 89) dX10_leaveRun_89 ?_
        refine ea_lload (pc := 90) dX10_leaveRun_90 4 rfl ?_
        refine ea_lor (pc := 92) dX10_leaveRun_92 ?_
        refine ea_lstore (pc := 93) (lv' := [(0, vR (some (b0 + 13))), (1, vI x1), (2, vI x2), (3, vI x3), (4, vJ y4), (6, vI x6), (9, vJ ((((Int32.toInt64 (vX10_minuteIn (x1 : Int32) h)) <<< (Int32.toInt64 21 &&& 63)) ||| (8192 : Int64)) ||| y4))]) dX10_leaveRun_93 (Nat.le_of_ble_eq_true rfl) [1, 2, 3, 4, 5, 6, 0] rfl ?_
        refine ea_goto (pc := 95) (tgt := 122) dX10_leaveRun_95 rfl ?_
        exact ((ih 122 0 (x1 : Int32) (x2 : Int32) (x3 : Int32) (x6 : Int32) (y4 : Int64) (((((Int32.toInt64 (vX10_minuteIn (x1 : Int32) h)) <<< (Int32.toInt64 21 &&& 63)) ||| (8192 : Int64)) ||| y4) : Int64) h _ _ E hs).2.2.2 rfl)
    intro el
    subst el
    have E := (if_neg (by decide)).symm.trans E
    have E := (if_neg (by decide)).symm.trans E
    have E := (if_neg (by decide)).symm.trans E
    have E := (if_pos rfl).symm.trans E
    refine ea_bipush (pc := 122) dX10_leaveRun_122 (v := 12) rfl ?_
    refine ea_iload_n (pc := 124) dX10_leaveRun_124 rfl 2 rfl ?_
    refine ea_bipush (pc := 125) dX10_leaveRun_125 (v := 8) rfl ?_
    refine ea_idiv (pc := 127) dX10_leaveRun_127 (by decide) ?_
    refine ea_imul (pc := 128) dX10_leaveRun_128 ?_
    refine ea_iload (pc := 129) dX10_leaveRun_129 5 rfl ?_
    refine ea_iadd (pc := 131) dX10_leaveRun_131 ?_
    refine ea_istore (pc := 132) (lv' := [(0, vR (some (b0 + 13))), (1, vI x1), (2, vI x2), (3, vI x3), (4, vJ y4), (6, vI x6), (9, vJ y9), (11, vI (((12 : Int32) * (x2 / (8 : Int32))) + x6))]) dX10_leaveRun_132 (Nat.le_of_ble_eq_true rfl) [1, 2, 3, 4, 5, 6, 7, 0] rfl ?_
    refine ea_aload_n (pc := 134) dX10_leaveRun_134 rfl 0 rfl ?_
    refine ea_getR (pc := 135) dX10_leaveRun_135 ec_10 (k := 5) (Nat.le_of_ble_eq_true rfl) rfl (Or.inl ew_232) (hs.1 13 (by decide)).1 (hs.1 13 (by decide)).2.1 rfl ?_
    refine ea_iload (pc := 138) dX10_leaveRun_138 7 rfl ?_
    refine ea_aload_n (pc := 140) dX10_leaveRun_140 rfl 0 rfl ?_
    refine ea_getR (pc := 141) dX10_leaveRun_141 ec_10 (k := 5) (Nat.le_of_ble_eq_true rfl) rfl (Or.inl ew_232) (hs.1 13 (by decide)).1 (hs.1 13 (by decide)).2.1 rfl ?_
    refine ea_iload (pc := 144) dX10_leaveRun_144 7 rfl ?_
    obtain ⟨e14, E⟩ := gd_some E
    obtain ⟨f15, E⟩ := gd_some E
    obtain ⟨z16, E⟩ := gd_some E
    refine ea_deref1 e14 ?_
    refine ea_lald (pc := 146) dX10_leaveRun_146 f15.1 f15.2 z16 ?_
    refine ea_lload (pc := 147) dX10_leaveRun_147 6 rfl ?_
    refine ea_mminJ (pc := 149) dX10_leaveRun_149 ew_623 ew_624 ew_112 ew_625 (by omega) (Nat.le_of_ble_eq_true rfl) ?_
    obtain ⟨e17, E⟩ := gd_some E
    obtain ⟨f18, E⟩ := gd_some E
    obtain ⟨z19, E⟩ := gd_some E
    refine ea_deref2 e17 ?_
    refine ea_last (pc := 152) dX10_leaveRun_152 f18.1 f18.2 z19 ?_
    have hs20 : ShC b0 (ea_wj h (Option.getD (ea_r h (b0 + 13) 5) 0) (Int32.toNatClampNeg (((12 : Int32) * (x2 / (8 : Int32))) + x6)) (if y9 < (ea_j h (Option.getD (ea_r h (b0 + 13) 5) 0) (Int32.toNatClampNeg (((12 : Int32) * (x2 / (8 : Int32))) + x6))) then y9 else (ea_j h (Option.getD (ea_r h (b0 + 13) 5) 0) (Int32.toNatClampNeg (((12 : Int32) * (x2 / (8 : Int32))) + x6))))) := ShC_wj hs
    obtain ⟨H21, eH21, E⟩ := let_some E
    refine ea_nm eH21 ?_
    have hsH21 : ShC b0 H21 := by rw [eH21]; exact hs20
    refine ea_iinc (pc := 153) (v := 1) (lv' := [(0, vR (some (b0 + 13))), (1, vI x1), (2, vI x2), (3, vI x3), (4, vJ y4), (6, vI (x6 + (1 : Int32)))]) dX10_leaveRun_153 5 rfl rfl (Nat.le_of_ble_eq_true rfl) [1, 2, 3, 4, 5, 0] rfl ?_
    refine ea_goto (pc := 156) (tgt := 26) dX10_leaveRun_156 rfl ?_
    exact ((ih 26 0 (x1 : Int32) (x2 : Int32) (x3 : Int32) ((x6 + (1 : Int32)) : Int32) (y4 : Int64) 0 H21 _ _ E hsH21).2.1 rfl)
noncomputable def qX10_leaveRun (b0 : Nat) (x1 : Int32) (x2 : Int32) (x3 : Int32) (h : ea_H) : Option (Unit × ea_H) := gX10_leaveRun b0 1000000000 0 0 x1 x2 x3 0 0 0 h
def okX10_leaveRun (b0 : Nat) (x1 : Int32) (x2 : Int32) (x3 : Int32) (h : ea_H) : Prop := ∃ x, qX10_leaveRun b0 x1 x2 x3 h = some x
noncomputable def wX10_leaveRun (b0 : Nat) (x1 : Int32) (x2 : Int32) (x3 : Int32) (h : ea_H) : ea_H := ((qX10_leaveRun b0 x1 x2 x3 h).getD ((), h)).2
theorem sX10_leaveRun {d : Nat} {b0 : Nat} {x1 : Int32} {x2 : Int32} {x3 : Int32} {h : ea_H} (hd : 2 ≤ d) (hs : ShC b0 h) (K : okX10_leaveRun b0 x1 x2 x3 h) : ea_Met mX10_leaveRun d [vR (some (b0 + 13)), vI x1, vI x2, vI x3] h none (wX10_leaveRun b0 x1 x2 x3 h) := by
  obtain ⟨⟨x, y⟩, K⟩ := K
  unfold wX10_leaveRun
  rw [K]
  unfold qX10_leaveRun at K
  exact ea_enter rfl (Nat.le_of_ble_eq_true rfl) ((tX10_leaveRun hd 1000000000 0 0 x1 x2 x3 0 0 0 h x y K hs).1 rfl)
theorem zX10_leaveRun {b0 : Nat} : ∀ (f lbl : Nat) (sy0 : Int64) (x1 : Int32) (x2 : Int32) (x3 : Int32) (x6 : Int32) (y4 : Int64) (y9 : Int64) (h : ea_H) (r : Unit) (h' : ea_H), gX10_leaveRun b0 f lbl sy0 x1 x2 x3 x6 y4 y9 h = some (r, h') → ShC b0 h → ShC b0 h' := by
  intro f
  induction f with
  | zero => intro lbl sy0 x1 x2 x3 x6 y4 y9 h r h' E; cases E
  | succ f ih =>
    intro lbl sy0 x1 x2 x3 x6 y4 y9 h r h' E hs
    unfold gX10_leaveRun at E
    by_cases el0 : lbl = 0
    · have E := (if_pos el0).symm.trans E
      exact ih 26 0 (x1 : Int32) (x2 : Int32) (x3 : Int32) (0 : Int32) ((Int32.toInt64 ((((vX10_trainIn (x1 : Int32) h) <<< ((9 : Int32) &&& 31)) ||| ((vX10_dayIn (x1 : Int32) h) <<< ((6 : Int32) &&& 31))) ||| (vX10_stopIn (x1 : Int32) h))) : Int64) 0 h _ _ E hs
    have E := (if_neg el0).symm.trans E
    by_cases el1 : lbl = 26
    · have E := (if_pos el1).symm.trans E
      by_cases c10 : (12 : Int32) ≤ x6
      · have E := (if_pos c10).symm.trans E
        exact ea_shO E hs
      have E := (if_neg c10).symm.trans E
      obtain ⟨z4, E⟩ := gd_some E
      by_cases c9 : (0 : Int32) ≤ (ea_i h (b0 + 14) (Int32.toNatClampNeg x3))
      · have E := (if_pos c9).symm.trans E
        obtain ⟨z5, E⟩ := gd_some E
        obtain ⟨e6, E⟩ := gd_some E
        obtain ⟨f7, E⟩ := gd_some E
        obtain ⟨z8, E⟩ := gd_some E
        exact ih 65 ((ea_j h (Option.getD (ea_r h (b0 + 13) 4) 0) (Int32.toNatClampNeg (((12 : Int32) * (ea_i h (b0 + 14) (Int32.toNatClampNeg x3))) + x6))) : Int64) (x1 : Int32) (x2 : Int32) (x3 : Int32) (x6 : Int32) (y4 : Int64) 0 h _ _ E hs
      have E := (if_neg c9).symm.trans E
      exact ih 65 (9223372036854775807 : Int64) (x1 : Int32) (x2 : Int32) (x3 : Int32) (x6 : Int32) (y4 : Int64) 0 h _ _ E hs
    have E := (if_neg el1).symm.trans E
    by_cases el2 : lbl = 65
    · have E := (if_pos el2).symm.trans E
      by_cases c13 : x6 = x3
      · have E := (if_pos c13).symm.trans E
        exact ih 122 0 (x1 : Int32) (x2 : Int32) (x3 : Int32) (x6 : Int32) (y4 : Int64) (((((Int32.toInt64 (vX10_minuteIn (x1 : Int32) h)) <<< (Int32.toInt64 21 &&& 63)) ||| (8192 : Int64)) ||| y4) : Int64) h _ _ E hs
      have E := (if_neg c13).symm.trans E
      by_cases c11 : (lg_cmp sy0 (9223372036854775807 : Int64)) = (0 : Int32)
      · have E := (if_pos c11).symm.trans E
        exact ih 122 0 (x1 : Int32) (x2 : Int32) (x3 : Int32) (x6 : Int32) (y4 : Int64) (9223372036854775807 : Int64) h _ _ E hs
      have E := (if_neg c11).symm.trans E
      exact ih 122 0 (x1 : Int32) (x2 : Int32) (x3 : Int32) (x6 : Int32) (y4 : Int64) (((((sy0 >>> (Int32.toInt64 13 &&& 63)) + (1 : Int64)) <<< (Int32.toInt64 13 &&& 63)) ||| y4) : Int64) h _ _ E hs
    have E := (if_neg el2).symm.trans E
    by_cases el3 : lbl = 122
    · have E := (if_pos el3).symm.trans E
      obtain ⟨e14, E⟩ := gd_some E
      obtain ⟨f15, E⟩ := gd_some E
      obtain ⟨z16, E⟩ := gd_some E
      obtain ⟨e17, E⟩ := gd_some E
      obtain ⟨f18, E⟩ := gd_some E
      obtain ⟨z19, E⟩ := gd_some E
      obtain ⟨H21, eH21, E⟩ := let_some E
      have hsH21 : ShC b0 H21 := by rw [eH21]; exact (ShC_wj hs)
      exact ih 26 0 (x1 : Int32) (x2 : Int32) (x3 : Int32) ((x6 + (1 : Int32)) : Int32) (y4 : Int64) 0 H21 _ _ E hsH21
    have E := (if_neg el3).symm.trans E
    cases E
theorem shX10_leaveRun {b0 : Nat} {x1 : Int32} {x2 : Int32} {x3 : Int32} {h : ea_H} (hs : ShC b0 h) : ShC b0 (wX10_leaveRun b0 x1 x2 x3 h) := by
  unfold wX10_leaveRun
  cases K : qX10_leaveRun b0 x1 x2 x3 h with
  | none => exact hs
  | some x => obtain ⟨x, y⟩ := x; unfold qX10_leaveRun at K; exact zX10_leaveRun _ _ _ _ _ _ _ _ _ _ _ _ K hs
noncomputable def gJ7_copyOf_59c91 : Nat → Nat → Option Nat → Int32 → ea_H → Option (Option Nat × ea_H)
  | 0, _, _, _, _ => none
  | f + 1, lbl, r0, x1, h =>
    (gd (r0 = some (Option.getD r0 0)) (gd (((Option.getD r0 0) < ea_n h ∧ ea_c h (Option.getD r0 0) = 20)) (if x1 = (Int32.ofNat (ea_l h (Option.getD r0 0))) then none else (gd ((¬ x1 < 0)) (gd ((Int32.toNatClampNeg x1) * 4 ≤ 536870912) (ea_let (ea_new h 20 (Int32.toNatClampNeg x1) (Int32.toNatClampNeg x1)) fun H6 => (gd (r0 = some (Option.getD r0 0)) (gd (((Option.getD r0 0) < ea_n H6 ∧ ea_c H6 (Option.getD r0 0) = 20)) (gd (((ea_n h) < ea_n H6 ∧ ea_c H6 (ea_n h) = 20)) (gd (r0 = some (Option.getD r0 0)) (gd (((Option.getD r0 0) < ea_n H6 ∧ ea_c H6 (Option.getD r0 0) = 20)) (gd ((¬ (0 : Int32) < 0)) (gd ((¬ (0 : Int32) < 0)) (gd ((¬ (if x1 < (Int32.ofNat (ea_l H6 (Option.getD r0 0))) then x1 else (Int32.ofNat (ea_l H6 (Option.getD r0 0)))) < 0)) (gd (((Int32.toNatClampNeg 0) + (Int32.toNatClampNeg (if x1 < (Int32.ofNat (ea_l H6 (Option.getD r0 0))) then x1 else (Int32.ofNat (ea_l H6 (Option.getD r0 0))))) ≤ ea_l H6 (Option.getD r0 0))) (gd (((Int32.toNatClampNeg 0) + (Int32.toNatClampNeg (if x1 < (Int32.ofNat (ea_l H6 (Option.getD r0 0))) then x1 else (Int32.ofNat (ea_l H6 (Option.getD r0 0))))) ≤ ea_l H6 (ea_n h))) (ea_let (ea_wa H6 (ea_n h) (va_cpy (ea_i H6 (Option.getD r0 0)) (ea_i H6 (ea_n h)) (Int32.toNatClampNeg 0) (Int32.toNatClampNeg 0) (Int32.toNatClampNeg (if x1 < (Int32.ofNat (ea_l H6 (Option.getD r0 0))) then x1 else (Int32.ofNat (ea_l H6 (Option.getD r0 0))))))) fun H19 => (some ((some (ea_n h)), H19)))))))))))))))))))
theorem tJ7_copyOf_59c91 {d : Nat} {h0 : ea_H} (hd : 2 ≤ d) : ∀ (f lbl : Nat) (r0 : Option Nat) (x1 : Int32) (h : ea_H) (r : Option Nat) (h' : ea_H), gJ7_copyOf_59c91 f lbl r0 x1 h = some (r, h') → (lbl = 0 → ea_W mJ7_copyOf_59c91 d h0 (some (vR r)) h' 0 [(0, vR r0), (1, vI x1)] [] h) := by
  intro f
  induction f with
  | zero => intro lbl r0 x1 h r h' E; cases E
  | succ f ih =>
    intro lbl r0 x1 h r h' E
    unfold gJ7_copyOf_59c91 at E
    intro el
    subst el
    refine ea_iload_n (pc := 0) dJ7_copyOf_59c91_0 rfl 1 rfl ?_
    refine ea_aload_n (pc := 1) dJ7_copyOf_59c91_1 rfl 0 rfl ?_
    obtain ⟨e1, E⟩ := gd_some E
    obtain ⟨f2, E⟩ := gd_some E
    refine ea_deref0 e1 ?_
    refine ea_alen (pc := 2) dJ7_copyOf_59c91_2 f2.1 f2.2 (by decide) (by decide) ?_
    refine ea_icmp_ne (pc := 3) (tgt := 14) dJ7_copyOf_59c91_3 rfl (fun c20 => ?_) (fun c20 => ?_)
    · have E := (if_neg c20).symm.trans E
      refine ea_iload_n (pc := 14) dJ7_copyOf_59c91_14 rfl 1 rfl ?_
      obtain ⟨z4, E⟩ := gd_some E
      obtain ⟨z5, E⟩ := gd_some E
      refine ea_newI (pc := 15) (N := (Int32.toNatClampNeg x1)) dJ7_copyOf_59c91_15 ew_170 z4 rfl z5 ?_
      obtain ⟨H6, eH6, E⟩ := let_some E
      refine ea_nm eH6 ?_
      refine ea_astore_n (pc := 17) (lv' := [(0, vR r0), (1, vI x1), (2, vR (some (ea_n h)))]) dJ7_copyOf_59c91_17 rfl (Nat.le_of_ble_eq_true rfl) [1, 2, 0] rfl ?_
      refine ea_aload_n (pc := 18) dJ7_copyOf_59c91_18 rfl 0 rfl ?_
      refine ea_iconst (pc := 19) dJ7_copyOf_59c91_19 (v := 0) rfl ?_
      refine ea_aload_n (pc := 20) dJ7_copyOf_59c91_20 rfl 2 rfl ?_
      refine ea_iconst (pc := 21) dJ7_copyOf_59c91_21 (v := 0) rfl ?_
      refine ea_aload_n (pc := 22) dJ7_copyOf_59c91_22 rfl 0 rfl ?_
      obtain ⟨e7, E⟩ := gd_some E
      obtain ⟨f8, E⟩ := gd_some E
      refine ea_deref0 e7 ?_
      refine ea_alen (pc := 23) dJ7_copyOf_59c91_23 f8.1 f8.2 (by decide) (by decide) ?_
      refine ea_iload_n (pc := 24) dJ7_copyOf_59c91_24 rfl 1 rfl ?_
      refine ea_mminI (pc := 25) dJ7_copyOf_59c91_25 ew_663 ew_154 ew_112 ew_155 (by omega) (Nat.le_of_ble_eq_true rfl) ?_
      obtain ⟨f9, E⟩ := gd_some E
      obtain ⟨e10, E⟩ := gd_some E
      obtain ⟨f11, E⟩ := gd_some E
      obtain ⟨z12, E⟩ := gd_some E
      obtain ⟨z13, E⟩ := gd_some E
      obtain ⟨z14, E⟩ := gd_some E
      obtain ⟨z15, E⟩ := gd_some E
      obtain ⟨z16, E⟩ := gd_some E
      refine ea_deref4 e10 ?_
      refine ea_copyX (pc := 28) (sp := 0) (dp := 0) (n := (if x1 < (Int32.ofNat (ea_l H6 (Option.getD r0 0))) then x1 else (Int32.ofNat (ea_l H6 (Option.getD r0 0))))) 0 (fun _ => rfl) (Or.inl rfl) rfl dJ7_copyOf_59c91_28 ew_664 ew_152 ew_151 ew_111 ⟨f11.1, f11.2⟩ ⟨f9.1, f9.2⟩ z12 z13 z14 z15 z16 (fun _ _ => rfl) (by omega) (Nat.le_of_ble_eq_true rfl) ?_
      obtain ⟨H19, eH19, E⟩ := let_some E
      refine ea_nm eH19 ?_
      refine ea_aload_n (pc := 31) dJ7_copyOf_59c91_31 rfl 2 rfl ?_
      exact ea_aretO (pc := 32) dJ7_copyOf_59c91_32 rfl (Or.inr ⟨_, rfl⟩) E
    · have E := (if_pos c20).symm.trans E
      refine ea_aload_n (pc := 6) dJ7_copyOf_59c91_6 rfl 0 rfl ?_
      cases E
noncomputable def qJ7_copyOf_59c91 (r0 : Option Nat) (x1 : Int32) (h : ea_H) : Option (Option Nat × ea_H) := gJ7_copyOf_59c91 1000000000 0 r0 x1 h
def okJ7_copyOf_59c91 (r0 : Option Nat) (x1 : Int32) (h : ea_H) : Prop := ∃ x, qJ7_copyOf_59c91 r0 x1 h = some x
noncomputable def vJ7_copyOf_59c91 (r0 : Option Nat) (x1 : Int32) (h : ea_H) : Option Nat := ((qJ7_copyOf_59c91 r0 x1 h).getD (none, h)).1
noncomputable def wJ7_copyOf_59c91 (r0 : Option Nat) (x1 : Int32) (h : ea_H) : ea_H := ((qJ7_copyOf_59c91 r0 x1 h).getD (none, h)).2
theorem sJ7_copyOf_59c91 {d : Nat} {r0 : Option Nat} {x1 : Int32} {h : ea_H} (hd : 2 ≤ d) (K : okJ7_copyOf_59c91 r0 x1 h) : ea_Met mJ7_copyOf_59c91 d [vR r0, vI x1] h (some (vR (vJ7_copyOf_59c91 r0 x1 h))) (wJ7_copyOf_59c91 r0 x1 h) := by
  obtain ⟨⟨x, y⟩, K⟩ := K
  unfold wJ7_copyOf_59c91 vJ7_copyOf_59c91
  rw [K]
  unfold qJ7_copyOf_59c91 at K
  exact ea_enter rfl (Nat.le_of_ble_eq_true rfl) ((tJ7_copyOf_59c91 hd 1000000000 0 r0 x1 h x y K) rfl)
theorem zJ7_copyOf_59c91 {b0 : Nat} : ∀ (f lbl : Nat) (r0 : Option Nat) (x1 : Int32) (h : ea_H) (r : Option Nat) (h' : ea_H), gJ7_copyOf_59c91 f lbl r0 x1 h = some (r, h') → ShC b0 h → ShC b0 h' := by
  intro f
  induction f with
  | zero => intro lbl r0 x1 h r h' E; cases E
  | succ f ih =>
    intro lbl r0 x1 h r h' E hs
    unfold gJ7_copyOf_59c91 at E
    obtain ⟨e1, E⟩ := gd_some E
    obtain ⟨f2, E⟩ := gd_some E
    by_cases c20 : x1 = (Int32.ofNat (ea_l h (Option.getD r0 0)))
    · have E := (if_pos c20).symm.trans E
      cases E
    have E := (if_neg c20).symm.trans E
    obtain ⟨z4, E⟩ := gd_some E
    obtain ⟨z5, E⟩ := gd_some E
    obtain ⟨H6, eH6, E⟩ := let_some E
    have hsH6 : ShC b0 H6 := by rw [eH6]; exact (ShC_new hs)
    obtain ⟨e7, E⟩ := gd_some E
    obtain ⟨f8, E⟩ := gd_some E
    obtain ⟨f9, E⟩ := gd_some E
    obtain ⟨e10, E⟩ := gd_some E
    obtain ⟨f11, E⟩ := gd_some E
    obtain ⟨z12, E⟩ := gd_some E
    obtain ⟨z13, E⟩ := gd_some E
    obtain ⟨z14, E⟩ := gd_some E
    obtain ⟨z15, E⟩ := gd_some E
    obtain ⟨z16, E⟩ := gd_some E
    obtain ⟨H19, eH19, E⟩ := let_some E
    have hsH19 : ShC b0 H19 := by rw [eH19]; exact (ShC_wa hsH6)
    exact ea_shO E hsH19
theorem shJ7_copyOf_59c91 {b0 : Nat} {r0 : Option Nat} {x1 : Int32} {h : ea_H} (hs : ShC b0 h) : ShC b0 (wJ7_copyOf_59c91 r0 x1 h) := by
  unfold wJ7_copyOf_59c91
  cases K : qJ7_copyOf_59c91 r0 x1 h with
  | none => exact hs
  | some x => obtain ⟨x, y⟩ := x; unfold qJ7_copyOf_59c91 at K; exact zJ7_copyOf_59c91 _ _ _ _ _ _ _ K hs
noncomputable def gJ7_fill_53178 : Nat → Nat → Option Nat → Int32 → Int32 → Int32 → ea_H → Option (Unit × ea_H)
  | 0, _, _, _, _, _, _ => none
  | f + 1, lbl, r0, x1, x2, x3, h =>
    if lbl = 0 then (gd (r0 = some (Option.getD r0 0)) (gd (((Option.getD r0 0) < ea_n h ∧ ea_c h (Option.getD r0 0) = 20)) (gJ7_fill_53178 f 5 (r0 : Option Nat) (x1 : Int32) (0 : Int32) ((Int32.ofNat (ea_l h (Option.getD r0 0))) : Int32) h))) else
    if lbl = 5 then (if x3 ≤ x2 then (some ((), h)) else (gd (r0 = some (Option.getD r0 0)) (gd (((Option.getD r0 0) < ea_n h ∧ ea_c h (Option.getD r0 0) = 20)) (gd (vp_in x2 (ea_l h (Option.getD r0 0))) (ea_let (ea_wi h (Option.getD r0 0) (Int32.toNatClampNeg x2) x1) fun H7 => (gJ7_fill_53178 f 5 (r0 : Option Nat) (x1 : Int32) ((x2 + (1 : Int32)) : Int32) (x3 : Int32) H7)))))) else none
theorem tJ7_fill_53178 {d : Nat} {h0 : ea_H} (hd : 1 ≤ d) : ∀ (f lbl : Nat) (r0 : Option Nat) (x1 : Int32) (x2 : Int32) (x3 : Int32) (h : ea_H) (r : Unit) (h' : ea_H), gJ7_fill_53178 f lbl r0 x1 x2 x3 h = some (r, h') → (lbl = 0 → ea_W mJ7_fill_53178 d h0 none h' 0 [(0, vR r0), (1, vI x1)] [] h) ∧ (lbl = 5 → ea_W mJ7_fill_53178 d h0 none h' 5 [(0, vR r0), (1, vI x1), (2, vI x2), (3, vI x3)] [] h) := by
  intro f
  induction f with
  | zero => intro lbl r0 x1 x2 x3 h r h' E; cases E
  | succ f ih =>
    intro lbl r0 x1 x2 x3 h r h' E
    unfold gJ7_fill_53178 at E
    refine ⟨?_, ?_⟩
    · intro el
      subst el
      have E := (if_pos rfl).symm.trans E
      refine ea_iconst (pc := 0) dJ7_fill_53178_0 (v := 0) rfl ?_
      refine ea_istore_n (pc := 1) (lv' := [(0, vR r0), (1, vI x1), (2, vI 0)]) dJ7_fill_53178_1 rfl (Nat.le_of_ble_eq_true rfl) [1, 2, 0] rfl ?_
      refine ea_aload_n (pc := 2) dJ7_fill_53178_2 rfl 0 rfl ?_
      obtain ⟨e1, E⟩ := gd_some E
      obtain ⟨f2, E⟩ := gd_some E
      refine ea_deref0 e1 ?_
      refine ea_alen (pc := 3) dJ7_fill_53178_3 f2.1 f2.2 (by decide) (by decide) ?_
      refine ea_istore_n (pc := 4) (lv' := [(0, vR r0), (1, vI x1), (2, vI 0), (3, vI (Int32.ofNat (ea_l h (Option.getD r0 0))))]) dJ7_fill_53178_4 rfl (Nat.le_of_ble_eq_true rfl) [1, 2, 3, 0] rfl ?_
      exact ((ih 5 (r0 : Option Nat) (x1 : Int32) (0 : Int32) ((Int32.ofNat (ea_l h (Option.getD r0 0))) : Int32) h _ _ E).2 rfl)
    intro el
    subst el
    have E := (if_neg (by decide)).symm.trans E
    have E := (if_pos rfl).symm.trans E
    refine ea_iload_n (pc := 5) dJ7_fill_53178_5 rfl 2 rfl ?_
    refine ea_iload_n (pc := 6) dJ7_fill_53178_6 rfl 3 rfl ?_
    refine ea_icmp_ge (pc := 7) (tgt := 20) dJ7_fill_53178_7 rfl (fun c8 => ?_) (fun c8 => ?_)
    · have E := (if_pos c8).symm.trans E
      exact ea_vretO (pc := 20) dJ7_fill_53178_20 rfl E
    · have E := (if_neg c8).symm.trans E
      refine ea_aload_n (pc := 10) dJ7_fill_53178_10 rfl 0 rfl ?_
      refine ea_iload_n (pc := 11) dJ7_fill_53178_11 rfl 2 rfl ?_
      refine ea_iload_n (pc := 12) dJ7_fill_53178_12 rfl 1 rfl ?_
      obtain ⟨e3, E⟩ := gd_some E
      obtain ⟨f4, E⟩ := gd_some E
      obtain ⟨z5, E⟩ := gd_some E
      refine ea_deref2 e3 ?_
      refine ea_iast (pc := 13) dJ7_fill_53178_13 f4.1 f4.2 z5 ?_
      obtain ⟨H7, eH7, E⟩ := let_some E
      refine ea_nm eH7 ?_
      refine ea_iinc (pc := 14) (v := 1) (lv' := [(0, vR r0), (1, vI x1), (2, vI (x2 + (1 : Int32))), (3, vI x3)]) dJ7_fill_53178_14 2 rfl rfl (Nat.le_of_ble_eq_true rfl) [1, 2, 0, 3] rfl ?_
      refine ea_goto (pc := 17) (tgt := 5) dJ7_fill_53178_17 rfl ?_
      exact ((ih 5 (r0 : Option Nat) (x1 : Int32) ((x2 + (1 : Int32)) : Int32) (x3 : Int32) H7 _ _ E).2 rfl)
noncomputable def qJ7_fill_53178 (r0 : Option Nat) (x1 : Int32) (h : ea_H) : Option (Unit × ea_H) := gJ7_fill_53178 1000000000 0 r0 x1 0 0 h
def okJ7_fill_53178 (r0 : Option Nat) (x1 : Int32) (h : ea_H) : Prop := ∃ x, qJ7_fill_53178 r0 x1 h = some x
noncomputable def wJ7_fill_53178 (r0 : Option Nat) (x1 : Int32) (h : ea_H) : ea_H := ((qJ7_fill_53178 r0 x1 h).getD ((), h)).2
theorem sJ7_fill_53178 {d : Nat} {r0 : Option Nat} {x1 : Int32} {h : ea_H} (hd : 1 ≤ d) (K : okJ7_fill_53178 r0 x1 h) : ea_Met mJ7_fill_53178 d [vR r0, vI x1] h none (wJ7_fill_53178 r0 x1 h) := by
  obtain ⟨⟨x, y⟩, K⟩ := K
  unfold wJ7_fill_53178
  rw [K]
  unfold qJ7_fill_53178 at K
  exact ea_enter rfl (Nat.le_of_ble_eq_true rfl) ((tJ7_fill_53178 hd 1000000000 0 r0 x1 0 0 h x y K).1 rfl)
theorem zJ7_fill_53178 {b0 : Nat} : ∀ (f lbl : Nat) (r0 : Option Nat) (x1 : Int32) (x2 : Int32) (x3 : Int32) (h : ea_H) (r : Unit) (h' : ea_H), gJ7_fill_53178 f lbl r0 x1 x2 x3 h = some (r, h') → ShC b0 h → ShC b0 h' := by
  intro f
  induction f with
  | zero => intro lbl r0 x1 x2 x3 h r h' E; cases E
  | succ f ih =>
    intro lbl r0 x1 x2 x3 h r h' E hs
    unfold gJ7_fill_53178 at E
    by_cases el0 : lbl = 0
    · have E := (if_pos el0).symm.trans E
      obtain ⟨e1, E⟩ := gd_some E
      obtain ⟨f2, E⟩ := gd_some E
      exact ih 5 (r0 : Option Nat) (x1 : Int32) (0 : Int32) ((Int32.ofNat (ea_l h (Option.getD r0 0))) : Int32) h _ _ E hs
    have E := (if_neg el0).symm.trans E
    by_cases el1 : lbl = 5
    · have E := (if_pos el1).symm.trans E
      by_cases c8 : x3 ≤ x2
      · have E := (if_pos c8).symm.trans E
        exact ea_shO E hs
      have E := (if_neg c8).symm.trans E
      obtain ⟨e3, E⟩ := gd_some E
      obtain ⟨f4, E⟩ := gd_some E
      obtain ⟨z5, E⟩ := gd_some E
      obtain ⟨H7, eH7, E⟩ := let_some E
      have hsH7 : ShC b0 H7 := by rw [eH7]; exact (ShC_wi hs)
      exact ih 5 (r0 : Option Nat) (x1 : Int32) ((x2 + (1 : Int32)) : Int32) (x3 : Int32) H7 _ _ E hsH7
    have E := (if_neg el1).symm.trans E
    cases E
theorem shJ7_fill_53178 {b0 : Nat} {r0 : Option Nat} {x1 : Int32} {h : ea_H} (hs : ShC b0 h) : ShC b0 (wJ7_fill_53178 r0 x1 h) := by
  unfold wJ7_fill_53178
  cases K : qJ7_fill_53178 r0 x1 h with
  | none => exact hs
  | some x => obtain ⟨x, y⟩ := x; unfold qJ7_fill_53178 at K; exact zJ7_fill_53178 _ _ _ _ _ _ _ _ _ K hs
noncomputable def gJ7_fill_d0a16 : Nat → Nat → Option Nat → Int32 → Int32 → Int64 → ea_H → Option (Unit × ea_H)
  | 0, _, _, _, _, _, _ => none
  | f + 1, lbl, r0, x3, x4, y1, h =>
    if lbl = 0 then (gd (r0 = some (Option.getD r0 0)) (gd (((Option.getD r0 0) < ea_n h ∧ ea_c h (Option.getD r0 0) = 22)) (gJ7_fill_d0a16 f 6 (r0 : Option Nat) (0 : Int32) ((Int32.ofNat (ea_l h (Option.getD r0 0))) : Int32) (y1 : Int64) h))) else
    if lbl = 6 then (if x4 ≤ x3 then (some ((), h)) else (gd (r0 = some (Option.getD r0 0)) (gd (((Option.getD r0 0) < ea_n h ∧ ea_c h (Option.getD r0 0) = 22)) (gd (vp_in x3 (ea_l h (Option.getD r0 0))) (ea_let (ea_wj h (Option.getD r0 0) (Int32.toNatClampNeg x3) y1) fun H7 => (gJ7_fill_d0a16 f 6 (r0 : Option Nat) ((x3 + (1 : Int32)) : Int32) (x4 : Int32) (y1 : Int64) H7)))))) else none
theorem tJ7_fill_d0a16 {d : Nat} {h0 : ea_H} (hd : 1 ≤ d) : ∀ (f lbl : Nat) (r0 : Option Nat) (x3 : Int32) (x4 : Int32) (y1 : Int64) (h : ea_H) (r : Unit) (h' : ea_H), gJ7_fill_d0a16 f lbl r0 x3 x4 y1 h = some (r, h') → (lbl = 0 → ea_W mJ7_fill_d0a16 d h0 none h' 0 [(0, vR r0), (1, vJ y1)] [] h) ∧ (lbl = 6 → ea_W mJ7_fill_d0a16 d h0 none h' 6 [(0, vR r0), (1, vJ y1), (3, vI x3), (4, vI x4)] [] h) := by
  intro f
  induction f with
  | zero => intro lbl r0 x3 x4 y1 h r h' E; cases E
  | succ f ih =>
    intro lbl r0 x3 x4 y1 h r h' E
    unfold gJ7_fill_d0a16 at E
    refine ⟨?_, ?_⟩
    · intro el
      subst el
      have E := (if_pos rfl).symm.trans E
      refine ea_iconst (pc := 0) dJ7_fill_d0a16_0 (v := 0) rfl ?_
      refine ea_istore_n (pc := 1) (lv' := [(0, vR r0), (1, vJ y1), (3, vI 0)]) dJ7_fill_d0a16_1 rfl (Nat.le_of_ble_eq_true rfl) [1, 2, 0] rfl ?_
      refine ea_aload_n (pc := 2) dJ7_fill_d0a16_2 rfl 0 rfl ?_
      obtain ⟨e1, E⟩ := gd_some E
      obtain ⟨f2, E⟩ := gd_some E
      refine ea_deref0 e1 ?_
      refine ea_alen (pc := 3) dJ7_fill_d0a16_3 f2.1 f2.2 (by decide) (by decide) ?_
      refine ea_istore (pc := 4) (lv' := [(0, vR r0), (1, vJ y1), (3, vI 0), (4, vI (Int32.ofNat (ea_l h (Option.getD r0 0))))]) dJ7_fill_d0a16_4 (Nat.le_of_ble_eq_true rfl) [1, 2, 3, 0] rfl ?_
      exact ((ih 6 (r0 : Option Nat) (0 : Int32) ((Int32.ofNat (ea_l h (Option.getD r0 0))) : Int32) (y1 : Int64) h _ _ E).2 rfl)
    intro el
    subst el
    have E := (if_neg (by decide)).symm.trans E
    have E := (if_pos rfl).symm.trans E
    refine ea_iload_n (pc := 6) dJ7_fill_d0a16_6 rfl 2 rfl ?_
    refine ea_iload (pc := 7) dJ7_fill_d0a16_7 3 rfl ?_
    refine ea_icmp_ge (pc := 9) (tgt := 22) dJ7_fill_d0a16_9 rfl (fun c8 => ?_) (fun c8 => ?_)
    · have E := (if_pos c8).symm.trans E
      exact ea_vretO (pc := 22) dJ7_fill_d0a16_22 rfl E
    · have E := (if_neg c8).symm.trans E
      refine ea_aload_n (pc := 12) dJ7_fill_d0a16_12 rfl 0 rfl ?_
      refine ea_iload_n (pc := 13) dJ7_fill_d0a16_13 rfl 2 rfl ?_
      refine ea_lload_n (pc := 14) dJ7_fill_d0a16_14 rfl 1 rfl ?_
      obtain ⟨e3, E⟩ := gd_some E
      obtain ⟨f4, E⟩ := gd_some E
      obtain ⟨z5, E⟩ := gd_some E
      refine ea_deref2 e3 ?_
      refine ea_last (pc := 15) dJ7_fill_d0a16_15 f4.1 f4.2 z5 ?_
      obtain ⟨H7, eH7, E⟩ := let_some E
      refine ea_nm eH7 ?_
      refine ea_iinc (pc := 16) (v := 1) (lv' := [(0, vR r0), (1, vJ y1), (3, vI (x3 + (1 : Int32))), (4, vI x4)]) dJ7_fill_d0a16_16 2 rfl rfl (Nat.le_of_ble_eq_true rfl) [1, 2, 0, 3] rfl ?_
      refine ea_goto (pc := 19) (tgt := 6) dJ7_fill_d0a16_19 rfl ?_
      exact ((ih 6 (r0 : Option Nat) ((x3 + (1 : Int32)) : Int32) (x4 : Int32) (y1 : Int64) H7 _ _ E).2 rfl)
noncomputable def qJ7_fill_d0a16 (r0 : Option Nat) (y1 : Int64) (h : ea_H) : Option (Unit × ea_H) := gJ7_fill_d0a16 1000000000 0 r0 0 0 y1 h
def okJ7_fill_d0a16 (r0 : Option Nat) (y1 : Int64) (h : ea_H) : Prop := ∃ x, qJ7_fill_d0a16 r0 y1 h = some x
noncomputable def wJ7_fill_d0a16 (r0 : Option Nat) (y1 : Int64) (h : ea_H) : ea_H := ((qJ7_fill_d0a16 r0 y1 h).getD ((), h)).2
theorem sJ7_fill_d0a16 {d : Nat} {r0 : Option Nat} {y1 : Int64} {h : ea_H} (hd : 1 ≤ d) (K : okJ7_fill_d0a16 r0 y1 h) : ea_Met mJ7_fill_d0a16 d [vR r0, vJ y1] h none (wJ7_fill_d0a16 r0 y1 h) := by
  obtain ⟨⟨x, y⟩, K⟩ := K
  unfold wJ7_fill_d0a16
  rw [K]
  unfold qJ7_fill_d0a16 at K
  exact ea_enter rfl (Nat.le_of_ble_eq_true rfl) ((tJ7_fill_d0a16 hd 1000000000 0 r0 0 0 y1 h x y K).1 rfl)
theorem zJ7_fill_d0a16 {b0 : Nat} : ∀ (f lbl : Nat) (r0 : Option Nat) (x3 : Int32) (x4 : Int32) (y1 : Int64) (h : ea_H) (r : Unit) (h' : ea_H), gJ7_fill_d0a16 f lbl r0 x3 x4 y1 h = some (r, h') → ShC b0 h → ShC b0 h' := by
  intro f
  induction f with
  | zero => intro lbl r0 x3 x4 y1 h r h' E; cases E
  | succ f ih =>
    intro lbl r0 x3 x4 y1 h r h' E hs
    unfold gJ7_fill_d0a16 at E
    by_cases el0 : lbl = 0
    · have E := (if_pos el0).symm.trans E
      obtain ⟨e1, E⟩ := gd_some E
      obtain ⟨f2, E⟩ := gd_some E
      exact ih 6 (r0 : Option Nat) (0 : Int32) ((Int32.ofNat (ea_l h (Option.getD r0 0))) : Int32) (y1 : Int64) h _ _ E hs
    have E := (if_neg el0).symm.trans E
    by_cases el1 : lbl = 6
    · have E := (if_pos el1).symm.trans E
      by_cases c8 : x4 ≤ x3
      · have E := (if_pos c8).symm.trans E
        exact ea_shO E hs
      have E := (if_neg c8).symm.trans E
      obtain ⟨e3, E⟩ := gd_some E
      obtain ⟨f4, E⟩ := gd_some E
      obtain ⟨z5, E⟩ := gd_some E
      obtain ⟨H7, eH7, E⟩ := let_some E
      have hsH7 : ShC b0 H7 := by rw [eH7]; exact (ShC_wj hs)
      exact ih 6 (r0 : Option Nat) ((x3 + (1 : Int32)) : Int32) (x4 : Int32) (y1 : Int64) H7 _ _ E hsH7
    have E := (if_neg el1).symm.trans E
    cases E
theorem shJ7_fill_d0a16 {b0 : Nat} {r0 : Option Nat} {y1 : Int64} {h : ea_H} (hs : ShC b0 h) : ShC b0 (wJ7_fill_d0a16 r0 y1 h) := by
  unfold wJ7_fill_d0a16
  cases K : qJ7_fill_d0a16 r0 y1 h with
  | none => exact hs
  | some x => obtain ⟨x, y⟩ := x; unfold qJ7_fill_d0a16 at K; exact zJ7_fill_d0a16 _ _ _ _ _ _ _ _ _ K hs
noncomputable def vX11_stop (b0 : Nat) (x1 : Int32) (x2 : Int32) (x3 : Int32) (x4 : Int32) (x5 : Int32) (h : ea_H) : Int32 := (if (0 : Int32) < (ea_i h (b0 + 0) 11) then ((-1) : Int32) else (if (vX9_has b0 (x1 : Int32) h) = (0 : Int32) then ((-1) : Int32) else (if (vX6_has b0 (x2 : Int32) h) = (0 : Int32) then ((-1) : Int32) else (vX9_add b0 (x1 : Int32) (x2 : Int32) (x3 : Int32) (x4 : Int32) (x5 : Int32) h))))
noncomputable def wX11_stop (b0 : Nat) (x1 : Int32) (x2 : Int32) (x3 : Int32) (x4 : Int32) (x5 : Int32) (h : ea_H) : ea_H := (if (0 : Int32) < (ea_i h (b0 + 0) 11) then h else (if (vX9_has b0 (x1 : Int32) h) = (0 : Int32) then h else (if (vX6_has b0 (x2 : Int32) h) = (0 : Int32) then h else (if (vX9_add b0 (x1 : Int32) (x2 : Int32) (x3 : Int32) (x4 : Int32) (x5 : Int32) h) = ((-1) : Int32) then (wX9_add b0 (x1 : Int32) (x2 : Int32) (x3 : Int32) (x4 : Int32) (x5 : Int32) h) else (wX11_tableChanged b0 (wX9_add b0 (x1 : Int32) (x2 : Int32) (x3 : Int32) (x4 : Int32) (x5 : Int32) h))))))
def okX11_stop (b0 : Nat) (x1 : Int32) (x2 : Int32) (x3 : Int32) (x4 : Int32) (x5 : Int32) (h : ea_H) : Prop := ((0 : Int32) < (ea_i h (b0 + 0) 11) → True) ∧ (¬ (0 : Int32) < (ea_i h (b0 + 0) 11) → ((vX9_has b0 (x1 : Int32) h) = (0 : Int32) → True) ∧ (¬ (vX9_has b0 (x1 : Int32) h) = (0 : Int32) → ((vX6_has b0 (x2 : Int32) h) = (0 : Int32) → True) ∧ (¬ (vX6_has b0 (x2 : Int32) h) = (0 : Int32) → (okX9_add b0 (x1 : Int32) (x2 : Int32) (x3 : Int32) (x4 : Int32) (x5 : Int32) h))))
theorem shX11_stop {b0 : Nat} {x1 : Int32} {x2 : Int32} {x3 : Int32} {x4 : Int32} {x5 : Int32} {h : ea_H} (hs : ShC b0 h) : ShC b0 (wX11_stop b0 x1 x2 x3 x4 x5 h) := (ShC_it hs (ShC_it hs (ShC_it hs (ShC_it (shX9_add hs) (shX11_tableChanged (shX9_add hs))))))
theorem sX11_stop {d : Nat} {b0 : Nat} {x1 : Int32} {x2 : Int32} {x3 : Int32} {x4 : Int32} {x5 : Int32} {h : ea_H} (hd : 2 ≤ d) (hs : ShC b0 h) (K : okX11_stop b0 x1 x2 x3 x4 x5 h) : ea_Met mX11_stop d [vR (some (b0 + 0)), vI x1, vI x2, vI x3, vI x4, vI x5] h (some (vI (vX11_stop b0 x1 x2 x3 x4 x5 h))) (wX11_stop b0 x1 x2 x3 x4 x5 h) := by
  obtain ⟨X, EX⟩ : ∃ z, z = vX11_stop b0 x1 x2 x3 x4 x5 h := ⟨_, rfl⟩
  rw [← EX]
  unfold vX11_stop at EX
  obtain ⟨Y, EY⟩ : ∃ z, z = wX11_stop b0 x1 x2 x3 x4 x5 h := ⟨_, rfl⟩
  rw [← EY]
  unfold wX11_stop at EY
  unfold okX11_stop at K
  refine ea_enter rfl (Nat.le_of_ble_eq_true rfl) ?_
  refine ea_aload_n (pc := 0) dX11_stop_0 rfl 0 rfl ?_
  refine ea_getI (pc := 1) dX11_stop_1 ec_11 (k := 11) (Nat.le_of_ble_eq_true rfl) rfl (Or.inl ew_448) (hs.1 0 (by decide)).1 (hs.1 0 (by decide)).2.1 ?_
  refine ea_if_gt (pc := 4) (tgt := 29) dX11_stop_4 rfl (fun c10 => ?_) (fun c10 => ?_)
  · have EX := EX.trans (if_pos c10)
    have EY := EY.trans (if_pos c10)
    refine ea_iconst (pc := 29) dX11_stop_29 (v := (-1)) rfl ?_
    exact ea_iretE (pc := 30) dX11_stop_30 rfl rfl EX EY
  · have EX := EX.trans (if_neg c10)
    have EY := EY.trans (if_neg c10)
    have K := K.2 c10
    refine ea_aload_n (pc := 7) dX11_stop_7 rfl 0 rfl ?_
    refine ea_getR (pc := 8) dX11_stop_8 ec_11 (k := 1) (Nat.le_of_ble_eq_true rfl) rfl (Or.inl ew_438) (hs.1 0 (by decide)).1 (hs.1 0 (by decide)).2.1 (hs.2 0 1 rfl) ?_
    refine ea_iload_n (pc := 11) dX11_stop_11 rfl 1 rfl ?_
    refine ea_callV (pc := 12) (d' := d - 1) (As := [vI x1]) (st := []) dX11_stop_12 kX9_has (sX9_has (d := d - 1) (by omega) hs) (by omega) rfl (Nat.le_of_ble_eq_true rfl) ew_518 ew_519 ew_520 (ci := 9) rfl (by decide) (hs.1 5 (by decide)).1 (hs.1 5 (by decide)).2.1 ?_
    refine ea_if_eq (pc := 15) (tgt := 29) dX11_stop_15 rfl (fun c9 => ?_) (fun c9 => ?_)
    · have EX := EX.trans (if_pos c9)
      have EY := EY.trans (if_pos c9)
      refine ea_iconst (pc := 29) dX11_stop_29 (v := (-1)) rfl ?_
      exact ea_iretE (pc := 30) dX11_stop_30 rfl rfl EX EY
    · have EX := EX.trans (if_neg c9)
      have EY := EY.trans (if_neg c9)
      have K := K.2 c9
      refine ea_aload_n (pc := 18) dX11_stop_18 rfl 0 rfl ?_
      refine ea_getR (pc := 19) dX11_stop_19 ec_11 (k := 0) (Nat.le_of_ble_eq_true rfl) rfl (Or.inl ew_437) (hs.1 0 (by decide)).1 (hs.1 0 (by decide)).2.1 (hs.2 0 0 rfl) ?_
      refine ea_iload_n (pc := 22) dX11_stop_22 rfl 2 rfl ?_
      refine ea_callV (pc := 23) (d' := d - 1) (As := [vI x2]) (st := []) dX11_stop_23 kX6_has (sX6_has (d := d - 1) (by omega) hs) (by omega) rfl (Nat.le_of_ble_eq_true rfl) ew_494 ew_495 ew_496 (ci := 6) rfl (by decide) (hs.1 1 (by decide)).1 (hs.1 1 (by decide)).2.1 ?_
      refine ea_if_ne (pc := 26) (tgt := 31) dX11_stop_26 rfl (fun c8 => ?_) (fun c8 => ?_)
      · have EX := EX.trans (if_neg c8)
        have EY := EY.trans (if_neg c8)
        have K := K.2 c8
        refine ea_aload_n (pc := 31) dX11_stop_31 rfl 0 rfl ?_
        refine ea_getR (pc := 32) dX11_stop_32 ec_11 (k := 1) (Nat.le_of_ble_eq_true rfl) rfl (Or.inl ew_438) (hs.1 0 (by decide)).1 (hs.1 0 (by decide)).2.1 (hs.2 0 1 rfl) ?_
        refine ea_iload_n (pc := 35) dX11_stop_35 rfl 1 rfl ?_
        refine ea_iload_n (pc := 36) dX11_stop_36 rfl 2 rfl ?_
        refine ea_iload_n (pc := 37) dX11_stop_37 rfl 3 rfl ?_
        refine ea_iload (pc := 38) dX11_stop_38 4 rfl ?_
        refine ea_iload (pc := 40) dX11_stop_40 5 rfl ?_
        have z3 := K
        refine ea_callV (pc := 42) (d' := d - 1) (As := [vI x1, vI x2, vI x3, vI x4, vI x5]) (st := []) dX11_stop_42 kX9_add (sX9_add (d := d - 1) (by omega) hs z3) (by omega) rfl (Nat.le_of_ble_eq_true rfl) ew_522 ew_523 ew_524 (ci := 9) rfl (by decide) (hs.1 5 (by decide)).1 (hs.1 5 (by decide)).2.1 ?_
        have hs4 : ShC b0 (wX9_add b0 (x1 : Int32) (x2 : Int32) (x3 : Int32) (x4 : Int32) (x5 : Int32) h) := shX9_add hs
        refine ea_istore (pc := 45) (lv' := [(0, vR (some (b0 + 0))), (6, vI (vX9_add b0 (x1 : Int32) (x2 : Int32) (x3 : Int32) (x4 : Int32) (x5 : Int32) h))]) dX11_stop_45 (Nat.le_of_ble_eq_true rfl) [1, 0] rfl ?_
        refine ea_iload (pc := 47) dX11_stop_47 1 rfl ?_
        refine ea_iconst (pc := 49) dX11_stop_49 (v := (-1)) rfl ?_
        refine ea_icmp_eq (pc := 50) (tgt := 57) dX11_stop_50 rfl (fun c7 => ?_) (fun c7 => ?_)
        · have EY := EY.trans (if_pos c7)
          refine ea_iload (pc := 57) dX11_stop_57 1 rfl ?_
          exact ea_iretE (pc := 59) dX11_stop_59 rfl rfl EX EY
        · have EY := EY.trans (if_neg c7)
          refine ea_aload_n (pc := 53) dX11_stop_53 rfl 0 rfl ?_
          refine ea_callV (pc := 54) (d' := d - 1) (As := []) (st := []) dX11_stop_54 kX11_tableChanged (sX11_tableChanged (d := d - 1) (by omega) hs4) (by omega) rfl (Nat.le_of_ble_eq_true rfl) ew_526 ew_528 ew_1 (ci := 11) rfl (by decide) (hs4.1 0 (by decide)).1 (hs4.1 0 (by decide)).2.1 ?_
          have hs6 : ShC b0 (wX11_tableChanged b0 (wX9_add b0 (x1 : Int32) (x2 : Int32) (x3 : Int32) (x4 : Int32) (x5 : Int32) h)) := shX11_tableChanged hs4
          refine ea_iload (pc := 57) dX11_stop_57 1 rfl ?_
          exact ea_iretE (pc := 59) dX11_stop_59 rfl rfl EX EY
      · have EX := EX.trans (if_pos c8)
        have EY := EY.trans (if_pos c8)
        refine ea_iconst (pc := 29) dX11_stop_29 (v := (-1)) rfl ?_
        exact ea_iretE (pc := 30) dX11_stop_30 rfl rfl EX EY
noncomputable def vX11_look (b0 : Nat) (x1 : Int32) (h : ea_H) : Int32 := (if x1 < (10 : Int32) then (if Int32.toInt x1 = 0 then (ea_i h (b0 + 0) 11) else (if Int32.toInt x1 = 1 then (ea_i h (b0 + 1) 0) else (if Int32.toInt x1 = 2 then (ea_i h (b0 + 5) 0) else (if Int32.toInt x1 = 3 then (ea_i h (b0 + 32) 0) else (if Int32.toInt x1 = 4 then (ea_i h (b0 + 16) 0) else (if Int32.toInt x1 = 5 then (ea_i h (b0 + 21) 1) else ((-1) : Int32))))))) else (if (16 : Int32) < x1 then (if Int32.toInt x1 = 0 then (ea_i h (b0 + 0) 11) else (if Int32.toInt x1 = 1 then (ea_i h (b0 + 1) 0) else (if Int32.toInt x1 = 2 then (ea_i h (b0 + 5) 0) else (if Int32.toInt x1 = 3 then (ea_i h (b0 + 32) 0) else (if Int32.toInt x1 = 4 then (ea_i h (b0 + 16) 0) else (if Int32.toInt x1 = 5 then (ea_i h (b0 + 21) 1) else ((-1) : Int32))))))) else (vX1_inState_at32 b0 ((x1 - (10 : Int32)) : Int32) h)))
noncomputable def wX11_look (b0 : Nat) (x1 : Int32) (h : ea_H) : ea_H := (if x1 < (10 : Int32) then h else (if (16 : Int32) < x1 then h else (wX1_inState_at32 b0 ((x1 - (10 : Int32)) : Int32) h)))
def okX11_look (b0 : Nat) (x1 : Int32) (h : ea_H) : Prop := (x1 < (10 : Int32) → True) ∧ (¬ x1 < (10 : Int32) → ((16 : Int32) < x1 → True) ∧ (¬ (16 : Int32) < x1 → (okX1_inState_at32 b0 ((x1 - (10 : Int32)) : Int32) h)))
theorem shX11_look {b0 : Nat} {x1 : Int32} {h : ea_H} (hs : ShC b0 h) : ShC b0 (wX11_look b0 x1 h) := (ShC_it hs (ShC_it hs (shX1_inState_at32 hs)))
theorem sX11_look {d : Nat} {b0 : Nat} {x1 : Int32} {h : ea_H} (hd : 2 ≤ d) (hs : ShC b0 h) (K : okX11_look b0 x1 h) : ea_Met mX11_look d [vR (some (b0 + 0)), vI x1] h (some (vI (vX11_look b0 x1 h))) (wX11_look b0 x1 h) := by
  obtain ⟨X, EX⟩ : ∃ z, z = vX11_look b0 x1 h := ⟨_, rfl⟩
  rw [← EX]
  unfold vX11_look at EX
  obtain ⟨Y, EY⟩ : ∃ z, z = wX11_look b0 x1 h := ⟨_, rfl⟩
  rw [← EY]
  unfold wX11_look at EY
  unfold okX11_look at K
  refine ea_enter rfl (Nat.le_of_ble_eq_true rfl) ?_
  refine ea_iload_n (pc := 0) dX11_look_0 rfl 1 rfl ?_
  refine ea_bipush (pc := 1) dX11_look_1 (v := 10) rfl ?_
  refine ea_icmp_lt (pc := 3) (tgt := 24) dX11_look_3 rfl (fun c4 => ?_) (fun c4 => ?_)
  · have EX := EX.trans (if_pos c4)
    have EY := EY.trans (if_pos c4)
    refine ea_iload_n (pc := 24) dX11_look_24 rfl 1 rfl ?_
    by_cases qc25_0 : Int32.toInt x1 = 0
    · have EX := EX.trans (if_pos qc25_0)
      refine ea_tswIn (pc := 25) (tgt := 64) dX11_look_25 (by rw [qc25_0]; decide) (by rw [qc25_0]; decide) (by rw [qc25_0]; rfl) rfl ?_
      refine ea_aload_n (pc := 64) dX11_look_64 rfl 0 rfl ?_
      refine ea_getI (pc := 65) dX11_look_65 ec_11 (k := 11) (Nat.le_of_ble_eq_true rfl) rfl (Or.inl ew_448) (hs.1 0 (by decide)).1 (hs.1 0 (by decide)).2.1 ?_
      exact ea_iretE (pc := 68) dX11_look_68 rfl rfl EX EY
    have EX := EX.trans (if_neg qc25_0)
    by_cases qc25_1 : Int32.toInt x1 = 1
    · have EX := EX.trans (if_pos qc25_1)
      refine ea_tswIn (pc := 25) (tgt := 69) dX11_look_25 (by rw [qc25_1]; decide) (by rw [qc25_1]; decide) (by rw [qc25_1]; rfl) rfl ?_
      refine ea_aload_n (pc := 69) dX11_look_69 rfl 0 rfl ?_
      refine ea_getR (pc := 70) dX11_look_70 ec_11 (k := 0) (Nat.le_of_ble_eq_true rfl) rfl (Or.inl ew_437) (hs.1 0 (by decide)).1 (hs.1 0 (by decide)).2.1 (hs.2 0 0 rfl) ?_
      refine ea_getI (pc := 73) dX11_look_73 ec_6 (k := 0) (Nat.le_of_ble_eq_true rfl) rfl (Or.inl ew_156) (hs.1 1 (by decide)).1 (hs.1 1 (by decide)).2.1 ?_
      exact ea_iretE (pc := 76) dX11_look_76 rfl rfl EX EY
    have EX := EX.trans (if_neg qc25_1)
    by_cases qc25_2 : Int32.toInt x1 = 2
    · have EX := EX.trans (if_pos qc25_2)
      refine ea_tswIn (pc := 25) (tgt := 77) dX11_look_25 (by rw [qc25_2]; decide) (by rw [qc25_2]; decide) (by rw [qc25_2]; rfl) rfl ?_
      refine ea_aload_n (pc := 77) dX11_look_77 rfl 0 rfl ?_
      refine ea_getR (pc := 78) dX11_look_78 ec_11 (k := 1) (Nat.le_of_ble_eq_true rfl) rfl (Or.inl ew_438) (hs.1 0 (by decide)).1 (hs.1 0 (by decide)).2.1 (hs.2 0 1 rfl) ?_
      refine ea_getI (pc := 81) dX11_look_81 ec_9 (k := 0) (Nat.le_of_ble_eq_true rfl) rfl (Or.inl ew_178) (hs.1 5 (by decide)).1 (hs.1 5 (by decide)).2.1 ?_
      exact ea_iretE (pc := 84) dX11_look_84 rfl rfl EX EY
    have EX := EX.trans (if_neg qc25_2)
    by_cases qc25_3 : Int32.toInt x1 = 3
    · have EX := EX.trans (if_pos qc25_3)
      refine ea_tswIn (pc := 25) (tgt := 85) dX11_look_25 (by rw [qc25_3]; decide) (by rw [qc25_3]; decide) (by rw [qc25_3]; rfl) rfl ?_
      refine ea_aload_n (pc := 85) dX11_look_85 rfl 0 rfl ?_
      refine ea_getR (pc := 86) dX11_look_86 ec_11 (k := 6) (Nat.le_of_ble_eq_true rfl) rfl (Or.inl ew_443) (hs.1 0 (by decide)).1 (hs.1 0 (by decide)).2.1 (hs.2 0 6 rfl) ?_
      refine ea_getI (pc := 89) dX11_look_89 ec_1 (k := 0) (Nat.le_of_ble_eq_true rfl) rfl (Or.inl ew_360) (hs.1 32 (by decide)).1 (hs.1 32 (by decide)).2.1 ?_
      exact ea_iretE (pc := 92) dX11_look_92 rfl rfl EX EY
    have EX := EX.trans (if_neg qc25_3)
    by_cases qc25_4 : Int32.toInt x1 = 4
    · have EX := EX.trans (if_pos qc25_4)
      refine ea_tswIn (pc := 25) (tgt := 93) dX11_look_25 (by rw [qc25_4]; decide) (by rw [qc25_4]; decide) (by rw [qc25_4]; rfl) rfl ?_
      refine ea_aload_n (pc := 93) dX11_look_93 rfl 0 rfl ?_
      refine ea_getR (pc := 94) dX11_look_94 ec_11 (k := 3) (Nat.le_of_ble_eq_true rfl) rfl (Or.inl ew_440) (hs.1 0 (by decide)).1 (hs.1 0 (by decide)).2.1 (hs.2 0 3 rfl) ?_
      refine ea_getI (pc := 97) dX11_look_97 ec_3 (k := 0) (Nat.le_of_ble_eq_true rfl) rfl (Or.inl ew_262) (hs.1 16 (by decide)).1 (hs.1 16 (by decide)).2.1 ?_
      exact ea_iretE (pc := 100) dX11_look_100 rfl rfl EX EY
    have EX := EX.trans (if_neg qc25_4)
    by_cases qc25_5 : Int32.toInt x1 = 5
    · have EX := EX.trans (if_pos qc25_5)
      refine ea_tswIn (pc := 25) (tgt := 101) dX11_look_25 (by rw [qc25_5]; decide) (by rw [qc25_5]; decide) (by rw [qc25_5]; rfl) rfl ?_
      refine ea_aload_n (pc := 101) dX11_look_101 rfl 0 rfl ?_
      refine ea_getR (pc := 102) dX11_look_102 ec_11 (k := 4) (Nat.le_of_ble_eq_true rfl) rfl (Or.inl ew_441) (hs.1 0 (by decide)).1 (hs.1 0 (by decide)).2.1 (hs.2 0 4 rfl) ?_
      refine ea_getI (pc := 105) dX11_look_105 ec_8 (k := 1) (Nat.le_of_ble_eq_true rfl) rfl (Or.inl ew_336) (hs.1 21 (by decide)).1 (hs.1 21 (by decide)).2.1 ?_
      exact ea_iretE (pc := 108) dX11_look_108 rfl rfl EX EY
    have EX := EX.trans (if_neg qc25_5)
    refine ea_tswOut (pc := 25) (tgt := 109) dX11_look_25 (ec_sw_0_5 qc25_0 qc25_1 qc25_2 qc25_3 qc25_4 qc25_5) rfl ?_
    refine ea_iconst (pc := 109) dX11_look_109 (v := (-1)) rfl ?_
    exact ea_iretE (pc := 110) dX11_look_110 rfl rfl EX EY
  · have EX := EX.trans (if_neg c4)
    have EY := EY.trans (if_neg c4)
    have K := K.2 c4
    refine ea_iload_n (pc := 6) dX11_look_6 rfl 1 rfl ?_
    refine ea_bipush (pc := 7) dX11_look_7 (v := 16) rfl ?_
    refine ea_icmp_gt (pc := 9) (tgt := 24) dX11_look_9 rfl (fun c3 => ?_) (fun c3 => ?_)
    · have EX := EX.trans (if_pos c3)
      have EY := EY.trans (if_pos c3)
      refine ea_iload_n (pc := 24) dX11_look_24 rfl 1 rfl ?_
      by_cases qc25_0 : Int32.toInt x1 = 0
      · have EX := EX.trans (if_pos qc25_0)
        refine ea_tswIn (pc := 25) (tgt := 64) dX11_look_25 (by rw [qc25_0]; decide) (by rw [qc25_0]; decide) (by rw [qc25_0]; rfl) rfl ?_
        refine ea_aload_n (pc := 64) dX11_look_64 rfl 0 rfl ?_
        refine ea_getI (pc := 65) dX11_look_65 ec_11 (k := 11) (Nat.le_of_ble_eq_true rfl) rfl (Or.inl ew_448) (hs.1 0 (by decide)).1 (hs.1 0 (by decide)).2.1 ?_
        exact ea_iretE (pc := 68) dX11_look_68 rfl rfl EX EY
      have EX := EX.trans (if_neg qc25_0)
      by_cases qc25_1 : Int32.toInt x1 = 1
      · have EX := EX.trans (if_pos qc25_1)
        refine ea_tswIn (pc := 25) (tgt := 69) dX11_look_25 (by rw [qc25_1]; decide) (by rw [qc25_1]; decide) (by rw [qc25_1]; rfl) rfl ?_
        refine ea_aload_n (pc := 69) dX11_look_69 rfl 0 rfl ?_
        refine ea_getR (pc := 70) dX11_look_70 ec_11 (k := 0) (Nat.le_of_ble_eq_true rfl) rfl (Or.inl ew_437) (hs.1 0 (by decide)).1 (hs.1 0 (by decide)).2.1 (hs.2 0 0 rfl) ?_
        refine ea_getI (pc := 73) dX11_look_73 ec_6 (k := 0) (Nat.le_of_ble_eq_true rfl) rfl (Or.inl ew_156) (hs.1 1 (by decide)).1 (hs.1 1 (by decide)).2.1 ?_
        exact ea_iretE (pc := 76) dX11_look_76 rfl rfl EX EY
      have EX := EX.trans (if_neg qc25_1)
      by_cases qc25_2 : Int32.toInt x1 = 2
      · have EX := EX.trans (if_pos qc25_2)
        refine ea_tswIn (pc := 25) (tgt := 77) dX11_look_25 (by rw [qc25_2]; decide) (by rw [qc25_2]; decide) (by rw [qc25_2]; rfl) rfl ?_
        refine ea_aload_n (pc := 77) dX11_look_77 rfl 0 rfl ?_
        refine ea_getR (pc := 78) dX11_look_78 ec_11 (k := 1) (Nat.le_of_ble_eq_true rfl) rfl (Or.inl ew_438) (hs.1 0 (by decide)).1 (hs.1 0 (by decide)).2.1 (hs.2 0 1 rfl) ?_
        refine ea_getI (pc := 81) dX11_look_81 ec_9 (k := 0) (Nat.le_of_ble_eq_true rfl) rfl (Or.inl ew_178) (hs.1 5 (by decide)).1 (hs.1 5 (by decide)).2.1 ?_
        exact ea_iretE (pc := 84) dX11_look_84 rfl rfl EX EY
      have EX := EX.trans (if_neg qc25_2)
      by_cases qc25_3 : Int32.toInt x1 = 3
      · have EX := EX.trans (if_pos qc25_3)
        refine ea_tswIn (pc := 25) (tgt := 85) dX11_look_25 (by rw [qc25_3]; decide) (by rw [qc25_3]; decide) (by rw [qc25_3]; rfl) rfl ?_
        refine ea_aload_n (pc := 85) dX11_look_85 rfl 0 rfl ?_
        refine ea_getR (pc := 86) dX11_look_86 ec_11 (k := 6) (Nat.le_of_ble_eq_true rfl) rfl (Or.inl ew_443) (hs.1 0 (by decide)).1 (hs.1 0 (by decide)).2.1 (hs.2 0 6 rfl) ?_
        refine ea_getI (pc := 89) dX11_look_89 ec_1 (k := 0) (Nat.le_of_ble_eq_true rfl) rfl (Or.inl ew_360) (hs.1 32 (by decide)).1 (hs.1 32 (by decide)).2.1 ?_
        exact ea_iretE (pc := 92) dX11_look_92 rfl rfl EX EY
      have EX := EX.trans (if_neg qc25_3)
      by_cases qc25_4 : Int32.toInt x1 = 4
      · have EX := EX.trans (if_pos qc25_4)
        refine ea_tswIn (pc := 25) (tgt := 93) dX11_look_25 (by rw [qc25_4]; decide) (by rw [qc25_4]; decide) (by rw [qc25_4]; rfl) rfl ?_
        refine ea_aload_n (pc := 93) dX11_look_93 rfl 0 rfl ?_
        refine ea_getR (pc := 94) dX11_look_94 ec_11 (k := 3) (Nat.le_of_ble_eq_true rfl) rfl (Or.inl ew_440) (hs.1 0 (by decide)).1 (hs.1 0 (by decide)).2.1 (hs.2 0 3 rfl) ?_
        refine ea_getI (pc := 97) dX11_look_97 ec_3 (k := 0) (Nat.le_of_ble_eq_true rfl) rfl (Or.inl ew_262) (hs.1 16 (by decide)).1 (hs.1 16 (by decide)).2.1 ?_
        exact ea_iretE (pc := 100) dX11_look_100 rfl rfl EX EY
      have EX := EX.trans (if_neg qc25_4)
      by_cases qc25_5 : Int32.toInt x1 = 5
      · have EX := EX.trans (if_pos qc25_5)
        refine ea_tswIn (pc := 25) (tgt := 101) dX11_look_25 (by rw [qc25_5]; decide) (by rw [qc25_5]; decide) (by rw [qc25_5]; rfl) rfl ?_
        refine ea_aload_n (pc := 101) dX11_look_101 rfl 0 rfl ?_
        refine ea_getR (pc := 102) dX11_look_102 ec_11 (k := 4) (Nat.le_of_ble_eq_true rfl) rfl (Or.inl ew_441) (hs.1 0 (by decide)).1 (hs.1 0 (by decide)).2.1 (hs.2 0 4 rfl) ?_
        refine ea_getI (pc := 105) dX11_look_105 ec_8 (k := 1) (Nat.le_of_ble_eq_true rfl) rfl (Or.inl ew_336) (hs.1 21 (by decide)).1 (hs.1 21 (by decide)).2.1 ?_
        exact ea_iretE (pc := 108) dX11_look_108 rfl rfl EX EY
      have EX := EX.trans (if_neg qc25_5)
      refine ea_tswOut (pc := 25) (tgt := 109) dX11_look_25 (ec_sw_0_5 qc25_0 qc25_1 qc25_2 qc25_3 qc25_4 qc25_5) rfl ?_
      refine ea_iconst (pc := 109) dX11_look_109 (v := (-1)) rfl ?_
      exact ea_iretE (pc := 110) dX11_look_110 rfl rfl EX EY
    · have EX := EX.trans (if_neg c3)
      have EY := EY.trans (if_neg c3)
      have K := K.2 c3
      refine ea_aload_n (pc := 12) dX11_look_12 rfl 0 rfl ?_
      refine ea_getR (pc := 13) dX11_look_13 ec_11 (k := 6) (Nat.le_of_ble_eq_true rfl) rfl (Or.inl ew_443) (hs.1 0 (by decide)).1 (hs.1 0 (by decide)).2.1 (hs.2 0 6 rfl) ?_
      refine ea_iload_n (pc := 16) dX11_look_16 rfl 1 rfl ?_
      refine ea_bipush (pc := 17) dX11_look_17 (v := 10) rfl ?_
      refine ea_isub (pc := 19) dX11_look_19 ?_
      have z1 := K
      refine ea_callV (pc := 20) (d' := d - 1) (As := [vI (x1 - (10 : Int32))]) (st := []) dX11_look_20 kX1_inState (sX1_inState_at32 (d := d - 1) (by omega) hs z1) (by omega) rfl (Nat.le_of_ble_eq_true rfl) ew_725 ew_726 ew_727 (ci := 1) rfl (by decide) (hs.1 32 (by decide)).1 (hs.1 32 (by decide)).2.1 ?_
      have hs2 : ShC b0 (wX1_inState_at32 b0 ((x1 - (10 : Int32)) : Int32) h) := shX1_inState_at32 hs
      exact ea_iretE (pc := 23) dX11_look_23 rfl rfl EX EY
noncomputable def vX11_feed (b0 : Nat) (x1 : Int32) (x2 : Int32) (x3 : Int32) (x4 : Int32) (x5 : Int32) (h : ea_H) : Int32 := (if ((ea_i h (b0 + 22) 0) + (20 : Int32)) ≤ (600 : Int32) then (ea_i (wX5_take b0 (x5 : Int32) (wX5_take b0 (x4 : Int32) (wX5_take b0 (x3 : Int32) (wX5_take b0 (x2 : Int32) (wX5_take b0 (x1 : Int32) h))))) (b0 + 22) 0) else ((-1) : Int32))
noncomputable def wX11_feed (b0 : Nat) (x1 : Int32) (x2 : Int32) (x3 : Int32) (x4 : Int32) (x5 : Int32) (h : ea_H) : ea_H := (if ((ea_i h (b0 + 22) 0) + (20 : Int32)) ≤ (600 : Int32) then (wX5_take b0 (x5 : Int32) (wX5_take b0 (x4 : Int32) (wX5_take b0 (x3 : Int32) (wX5_take b0 (x2 : Int32) (wX5_take b0 (x1 : Int32) h))))) else h)
def okX11_feed (b0 : Nat) (x1 : Int32) (x2 : Int32) (x3 : Int32) (x4 : Int32) (x5 : Int32) (h : ea_H) : Prop := (((ea_i h (b0 + 22) 0) + (20 : Int32)) ≤ (600 : Int32) → (okX5_take b0 (x1 : Int32) h) ∧ ((okX5_take b0 (x2 : Int32) (wX5_take b0 (x1 : Int32) h)) ∧ ((okX5_take b0 (x3 : Int32) (wX5_take b0 (x2 : Int32) (wX5_take b0 (x1 : Int32) h))) ∧ ((okX5_take b0 (x4 : Int32) (wX5_take b0 (x3 : Int32) (wX5_take b0 (x2 : Int32) (wX5_take b0 (x1 : Int32) h)))) ∧ ((okX5_take b0 (x5 : Int32) (wX5_take b0 (x4 : Int32) (wX5_take b0 (x3 : Int32) (wX5_take b0 (x2 : Int32) (wX5_take b0 (x1 : Int32) h)))))))))) ∧ (¬ ((ea_i h (b0 + 22) 0) + (20 : Int32)) ≤ (600 : Int32) → True)
theorem shX11_feed {b0 : Nat} {x1 : Int32} {x2 : Int32} {x3 : Int32} {x4 : Int32} {x5 : Int32} {h : ea_H} (hs : ShC b0 h) : ShC b0 (wX11_feed b0 x1 x2 x3 x4 x5 h) := (ShC_it (shX5_take (shX5_take (shX5_take (shX5_take (shX5_take hs))))) hs)
theorem sX11_feed {d : Nat} {b0 : Nat} {x1 : Int32} {x2 : Int32} {x3 : Int32} {x4 : Int32} {x5 : Int32} {h : ea_H} (hd : 2 ≤ d) (hs : ShC b0 h) (K : okX11_feed b0 x1 x2 x3 x4 x5 h) : ea_Met mX11_feed d [vR (some (b0 + 0)), vI x1, vI x2, vI x3, vI x4, vI x5] h (some (vI (vX11_feed b0 x1 x2 x3 x4 x5 h))) (wX11_feed b0 x1 x2 x3 x4 x5 h) := by
  obtain ⟨X, EX⟩ : ∃ z, z = vX11_feed b0 x1 x2 x3 x4 x5 h := ⟨_, rfl⟩
  rw [← EX]
  unfold vX11_feed at EX
  obtain ⟨Y, EY⟩ : ∃ z, z = wX11_feed b0 x1 x2 x3 x4 x5 h := ⟨_, rfl⟩
  rw [← EY]
  unfold wX11_feed at EY
  unfold okX11_feed at K
  refine ea_enter rfl (Nat.le_of_ble_eq_true rfl) ?_
  refine ea_aload_n (pc := 0) dX11_feed_0 rfl 0 rfl ?_
  refine ea_getR (pc := 1) dX11_feed_1 ec_11 (k := 4) (Nat.le_of_ble_eq_true rfl) rfl (Or.inl ew_441) (hs.1 0 (by decide)).1 (hs.1 0 (by decide)).2.1 (hs.2 0 4 rfl) ?_
  refine ea_getR (pc := 4) dX11_feed_4 ec_8 (k := 0) (Nat.le_of_ble_eq_true rfl) rfl (Or.inl ew_334) (hs.1 21 (by decide)).1 (hs.1 21 (by decide)).2.1 (hs.2 21 0 rfl) ?_
  refine ea_astore (pc := 7) (lv' := [(1, vI x1), (2, vI x2), (3, vI x3), (4, vI x4), (5, vI x5), (6, vR (some (b0 + 22)))]) dX11_feed_7 (Nat.le_of_ble_eq_true rfl) [2, 3, 4, 5, 6, 0] rfl ?_
  refine ea_aload (pc := 9) dX11_feed_9 5 rfl ?_
  refine ea_getI (pc := 11) dX11_feed_11 ec_5 (k := 0) (Nat.le_of_ble_eq_true rfl) rfl (Or.inl ew_292) (hs.1 22 (by decide)).1 (hs.1 22 (by decide)).2.1 ?_
  refine ea_bipush (pc := 14) dX11_feed_14 (v := 20) rfl ?_
  refine ea_iadd (pc := 16) dX11_feed_16 ?_
  refine ea_sipush (pc := 17) dX11_feed_17 (v := 600) rfl ?_
  refine ea_icmp_le (pc := 20) (tgt := 25) dX11_feed_20 rfl (fun c11 => ?_) (fun c11 => ?_)
  · have EX := EX.trans (if_pos c11)
    have EY := EY.trans (if_pos c11)
    have K := K.1 c11
    refine ea_aload (pc := 25) dX11_feed_25 5 rfl ?_
    refine ea_iload_n (pc := 27) dX11_feed_27 rfl 0 rfl ?_
    obtain ⟨z1, K⟩ := K
    refine ea_callV (pc := 28) (d' := d - 1) (As := [vI x1]) (st := []) dX11_feed_28 kX5_take (sX5_take (d := d - 1) (by omega) hs z1) (by omega) rfl (Nat.le_of_ble_eq_true rfl) ew_733 ew_734 ew_735 (ci := 5) rfl (by decide) (hs.1 22 (by decide)).1 (hs.1 22 (by decide)).2.1 ?_
    have hs2 : ShC b0 (wX5_take b0 (x1 : Int32) h) := shX5_take hs
    refine ea_aload (pc := 31) dX11_feed_31 5 rfl ?_
    refine ea_iload_n (pc := 33) dX11_feed_33 rfl 1 rfl ?_
    obtain ⟨z3, K⟩ := K
    refine ea_callV (pc := 34) (d' := d - 1) (As := [vI x2]) (st := []) dX11_feed_34 kX5_take (sX5_take (d := d - 1) (by omega) hs2 z3) (by omega) rfl (Nat.le_of_ble_eq_true rfl) ew_733 ew_734 ew_735 (ci := 5) rfl (by decide) (hs2.1 22 (by decide)).1 (hs2.1 22 (by decide)).2.1 ?_
    have hs4 : ShC b0 (wX5_take b0 (x2 : Int32) (wX5_take b0 (x1 : Int32) h)) := shX5_take hs2
    refine ea_aload (pc := 37) dX11_feed_37 5 rfl ?_
    refine ea_iload_n (pc := 39) dX11_feed_39 rfl 2 rfl ?_
    obtain ⟨z5, K⟩ := K
    refine ea_callV (pc := 40) (d' := d - 1) (As := [vI x3]) (st := []) dX11_feed_40 kX5_take (sX5_take (d := d - 1) (by omega) hs4 z5) (by omega) rfl (Nat.le_of_ble_eq_true rfl) ew_733 ew_734 ew_735 (ci := 5) rfl (by decide) (hs4.1 22 (by decide)).1 (hs4.1 22 (by decide)).2.1 ?_
    have hs6 : ShC b0 (wX5_take b0 (x3 : Int32) (wX5_take b0 (x2 : Int32) (wX5_take b0 (x1 : Int32) h))) := shX5_take hs4
    refine ea_aload (pc := 43) dX11_feed_43 5 rfl ?_
    refine ea_iload (pc := 45) dX11_feed_45 3 rfl ?_
    obtain ⟨z7, K⟩ := K
    refine ea_callV (pc := 47) (d' := d - 1) (As := [vI x4]) (st := []) dX11_feed_47 kX5_take (sX5_take (d := d - 1) (by omega) hs6 z7) (by omega) rfl (Nat.le_of_ble_eq_true rfl) ew_733 ew_734 ew_735 (ci := 5) rfl (by decide) (hs6.1 22 (by decide)).1 (hs6.1 22 (by decide)).2.1 ?_
    have hs8 : ShC b0 (wX5_take b0 (x4 : Int32) (wX5_take b0 (x3 : Int32) (wX5_take b0 (x2 : Int32) (wX5_take b0 (x1 : Int32) h)))) := shX5_take hs6
    refine ea_aload (pc := 50) dX11_feed_50 5 rfl ?_
    refine ea_iload (pc := 52) dX11_feed_52 4 rfl ?_
    have z9 := K
    refine ea_callV (pc := 54) (d' := d - 1) (As := [vI x5]) (st := []) dX11_feed_54 kX5_take (sX5_take (d := d - 1) (by omega) hs8 z9) (by omega) rfl (Nat.le_of_ble_eq_true rfl) ew_733 ew_734 ew_735 (ci := 5) rfl (by decide) (hs8.1 22 (by decide)).1 (hs8.1 22 (by decide)).2.1 ?_
    have hs10 : ShC b0 (wX5_take b0 (x5 : Int32) (wX5_take b0 (x4 : Int32) (wX5_take b0 (x3 : Int32) (wX5_take b0 (x2 : Int32) (wX5_take b0 (x1 : Int32) h))))) := shX5_take hs8
    refine ea_aload (pc := 57) dX11_feed_57 5 rfl ?_
    refine ea_getI (pc := 59) dX11_feed_59 ec_5 (k := 0) (Nat.le_of_ble_eq_true rfl) rfl (Or.inl ew_292) (hs10.1 22 (by decide)).1 (hs10.1 22 (by decide)).2.1 ?_
    exact ea_iretE (pc := 62) dX11_feed_62 rfl rfl EX EY
  · have EX := EX.trans (if_neg c11)
    have EY := EY.trans (if_neg c11)
    refine ea_iconst (pc := 23) dX11_feed_23 (v := (-1)) rfl ?_
    exact ea_iretE (pc := 24) dX11_feed_24 rfl rfl EX EY
noncomputable def vX11_run (b0 : Nat) (x1 : Int32) (x2 : Int32) (x3 : Int32) (h : ea_H) : Int32 := (if (vX9_hasRun b0 (x1 : Int32) (x2 : Int32) h) = (0 : Int32) then ((-1) : Int32) else (if Int32.toInt x3 = 0 then (vX1_aboardOf_at32 b0 ((((10 : Int32) * x2) + x1) : Int32) (0 : Int32) h) else (if Int32.toInt x3 = 1 then (vX1_aboardOf_at32 b0 ((((10 : Int32) * x2) + x1) : Int32) (1 : Int32) h) else (if Int32.toInt x3 = 2 then (vX9_goneFrom b0 (x1 : Int32) (x2 : Int32) ((ea_i h (b0 + 0) 11) : Int32) h) else (if Int32.toInt x3 = 3 then (ea_i h (b0 + 38) (Int32.toNatClampNeg (((10 : Int32) * x2) + x1))) else (if Int32.toInt x3 = 4 then (ea_i h (b0 + 11) (Int32.toNatClampNeg (((10 : Int32) * x2) + x1))) else ((-1) : Int32)))))))
noncomputable def wX11_run (b0 : Nat) (x1 : Int32) (x2 : Int32) (x3 : Int32) (h : ea_H) : ea_H := (if (vX9_hasRun b0 (x1 : Int32) (x2 : Int32) h) = (0 : Int32) then h else (if Int32.toInt x3 = 0 then (wX1_aboardOf_at32 b0 ((((10 : Int32) * x2) + x1) : Int32) (0 : Int32) h) else (if Int32.toInt x3 = 1 then (wX1_aboardOf_at32 b0 ((((10 : Int32) * x2) + x1) : Int32) (1 : Int32) h) else (if Int32.toInt x3 = 2 then (wX9_goneFrom b0 (x1 : Int32) (x2 : Int32) ((ea_i h (b0 + 0) 11) : Int32) h) else h))))
def okX11_run (b0 : Nat) (x1 : Int32) (x2 : Int32) (x3 : Int32) (h : ea_H) : Prop := ((vX9_hasRun b0 (x1 : Int32) (x2 : Int32) h) = (0 : Int32) → True) ∧ (¬ (vX9_hasRun b0 (x1 : Int32) (x2 : Int32) h) = (0 : Int32) → (Int32.toInt x3 = 0 → (okX1_aboardOf_at32 b0 ((((10 : Int32) * x2) + x1) : Int32) (0 : Int32) h)) ∧ (¬ Int32.toInt x3 = 0 → (Int32.toInt x3 = 1 → (okX1_aboardOf_at32 b0 ((((10 : Int32) * x2) + x1) : Int32) (1 : Int32) h)) ∧ (¬ Int32.toInt x3 = 1 → (Int32.toInt x3 = 2 → (okX9_goneFrom b0 (x1 : Int32) (x2 : Int32) ((ea_i h (b0 + 0) 11) : Int32) h)) ∧ (¬ Int32.toInt x3 = 2 → (Int32.toInt x3 = 3 → vp_in (((10 : Int32) * x2) + x1) 70) ∧ (¬ Int32.toInt x3 = 3 → (Int32.toInt x3 = 4 → vp_in (((10 : Int32) * x2) + x1) 70) ∧ (¬ Int32.toInt x3 = 4 → True))))))
theorem shX11_run {b0 : Nat} {x1 : Int32} {x2 : Int32} {x3 : Int32} {h : ea_H} (hs : ShC b0 h) : ShC b0 (wX11_run b0 x1 x2 x3 h) := (ShC_it hs (ShC_it (shX1_aboardOf_at32 hs) (ShC_it (shX1_aboardOf_at32 hs) (ShC_it (shX9_goneFrom hs) hs))))
theorem sX11_run {d : Nat} {b0 : Nat} {x1 : Int32} {x2 : Int32} {x3 : Int32} {h : ea_H} (hd : 3 ≤ d) (hs : ShC b0 h) (K : okX11_run b0 x1 x2 x3 h) : ea_Met mX11_run d [vR (some (b0 + 0)), vI x1, vI x2, vI x3] h (some (vI (vX11_run b0 x1 x2 x3 h))) (wX11_run b0 x1 x2 x3 h) := by
  obtain ⟨X, EX⟩ : ∃ z, z = vX11_run b0 x1 x2 x3 h := ⟨_, rfl⟩
  rw [← EX]
  unfold vX11_run at EX
  obtain ⟨Y, EY⟩ : ∃ z, z = wX11_run b0 x1 x2 x3 h := ⟨_, rfl⟩
  rw [← EY]
  unfold wX11_run at EY
  unfold okX11_run at K
  refine ea_enter rfl (Nat.le_of_ble_eq_true rfl) ?_
  refine ea_aload_n (pc := 0) dX11_run_0 rfl 0 rfl ?_
  refine ea_getR (pc := 1) dX11_run_1 ec_11 (k := 1) (Nat.le_of_ble_eq_true rfl) rfl (Or.inl ew_438) (hs.1 0 (by decide)).1 (hs.1 0 (by decide)).2.1 (hs.2 0 1 rfl) ?_
  refine ea_iload_n (pc := 4) dX11_run_4 rfl 1 rfl ?_
  refine ea_iload_n (pc := 5) dX11_run_5 rfl 2 rfl ?_
  refine ea_callV (pc := 6) (d' := d - 1) (As := [vI x1, vI x2]) (st := []) dX11_run_6 kX9_hasRun (sX9_hasRun (d := d - 1) (by omega) hs) (by omega) rfl (Nat.le_of_ble_eq_true rfl) ew_542 ew_543 ew_544 (ci := 9) rfl (by decide) (hs.1 5 (by decide)).1 (hs.1 5 (by decide)).2.1 ?_
  refine ea_if_ne (pc := 9) (tgt := 14) dX11_run_9 rfl (fun c10 => ?_) (fun c10 => ?_)
  · have EX := EX.trans (if_neg c10)
    have EY := EY.trans (if_neg c10)
    have K := K.2 c10
    refine ea_bipush (pc := 14) dX11_run_14 (v := 10) rfl ?_
    refine ea_iload_n (pc := 16) dX11_run_16 rfl 2 rfl ?_
    refine ea_imul (pc := 17) dX11_run_17 ?_
    refine ea_iload_n (pc := 18) dX11_run_18 rfl 1 rfl ?_
    refine ea_iadd (pc := 19) dX11_run_19 ?_
    refine ea_istore (pc := 20) (lv' := [(0, vR (some (b0 + 0))), (1, vI x1), (2, vI x2), (3, vI x3), (4, vI (((10 : Int32) * x2) + x1))]) dX11_run_20 (Nat.le_of_ble_eq_true rfl) [1, 2, 3, 4, 0] rfl ?_
    refine ea_iload_n (pc := 22) dX11_run_22 rfl 3 rfl ?_
    by_cases qc23_0 : Int32.toInt x3 = 0
    · have EX := EX.trans (if_pos qc23_0)
      have EY := EY.trans (if_pos qc23_0)
      have K := K.1 qc23_0
      refine ea_tswIn (pc := 23) (tgt := 56) dX11_run_23 (by rw [qc23_0]; decide) (by rw [qc23_0]; decide) (by rw [qc23_0]; rfl) rfl ?_
      refine ea_aload_n (pc := 56) dX11_run_56 rfl 0 rfl ?_
      refine ea_getR (pc := 57) dX11_run_57 ec_11 (k := 6) (Nat.le_of_ble_eq_true rfl) rfl (Or.inl ew_443) (hs.1 0 (by decide)).1 (hs.1 0 (by decide)).2.1 (hs.2 0 6 rfl) ?_
      refine ea_iload (pc := 60) dX11_run_60 4 rfl ?_
      refine ea_iconst (pc := 62) dX11_run_62 (v := 0) rfl ?_
      have z2 := K
      refine ea_callV (pc := 63) (d' := d - 1) (As := [vI (((10 : Int32) * x2) + x1), vI 0]) (st := []) dX11_run_63 kX1_aboardOf (sX1_aboardOf_at32 (d := d - 1) (by omega) hs z2) (by omega) rfl (Nat.le_of_ble_eq_true rfl) ew_1149 ew_1150 ew_1151 (ci := 1) rfl (by decide) (hs.1 32 (by decide)).1 (hs.1 32 (by decide)).2.1 ?_
      have hs3 : ShC b0 (wX1_aboardOf_at32 b0 ((((10 : Int32) * x2) + x1) : Int32) (0 : Int32) h) := shX1_aboardOf_at32 hs
      exact ea_iretE (pc := 66) dX11_run_66 rfl rfl EX EY
    have EX := EX.trans (if_neg qc23_0)
    have EY := EY.trans (if_neg qc23_0)
    have K := K.2 qc23_0
    by_cases qc23_1 : Int32.toInt x3 = 1
    · have EX := EX.trans (if_pos qc23_1)
      have EY := EY.trans (if_pos qc23_1)
      have K := K.1 qc23_1
      refine ea_tswIn (pc := 23) (tgt := 67) dX11_run_23 (by rw [qc23_1]; decide) (by rw [qc23_1]; decide) (by rw [qc23_1]; rfl) rfl ?_
      refine ea_aload_n (pc := 67) dX11_run_67 rfl 0 rfl ?_
      refine ea_getR (pc := 68) dX11_run_68 ec_11 (k := 6) (Nat.le_of_ble_eq_true rfl) rfl (Or.inl ew_443) (hs.1 0 (by decide)).1 (hs.1 0 (by decide)).2.1 (hs.2 0 6 rfl) ?_
      refine ea_iload (pc := 71) dX11_run_71 4 rfl ?_
      refine ea_iconst (pc := 73) dX11_run_73 (v := 1) rfl ?_
      have z4 := K
      refine ea_callV (pc := 74) (d' := d - 1) (As := [vI (((10 : Int32) * x2) + x1), vI 1]) (st := []) dX11_run_74 kX1_aboardOf (sX1_aboardOf_at32 (d := d - 1) (by omega) hs z4) (by omega) rfl (Nat.le_of_ble_eq_true rfl) ew_1149 ew_1150 ew_1151 (ci := 1) rfl (by decide) (hs.1 32 (by decide)).1 (hs.1 32 (by decide)).2.1 ?_
      have hs5 : ShC b0 (wX1_aboardOf_at32 b0 ((((10 : Int32) * x2) + x1) : Int32) (1 : Int32) h) := shX1_aboardOf_at32 hs
      exact ea_iretE (pc := 77) dX11_run_77 rfl rfl EX EY
    have EX := EX.trans (if_neg qc23_1)
    have EY := EY.trans (if_neg qc23_1)
    have K := K.2 qc23_1
    by_cases qc23_2 : Int32.toInt x3 = 2
    · have EX := EX.trans (if_pos qc23_2)
      have EY := EY.trans (if_pos qc23_2)
      have K := K.1 qc23_2
      refine ea_tswIn (pc := 23) (tgt := 78) dX11_run_23 (by rw [qc23_2]; decide) (by rw [qc23_2]; decide) (by rw [qc23_2]; rfl) rfl ?_
      refine ea_aload_n (pc := 78) dX11_run_78 rfl 0 rfl ?_
      refine ea_getR (pc := 79) dX11_run_79 ec_11 (k := 1) (Nat.le_of_ble_eq_true rfl) rfl (Or.inl ew_438) (hs.1 0 (by decide)).1 (hs.1 0 (by decide)).2.1 (hs.2 0 1 rfl) ?_
      refine ea_iload_n (pc := 82) dX11_run_82 rfl 1 rfl ?_
      refine ea_iload_n (pc := 83) dX11_run_83 rfl 2 rfl ?_
      refine ea_aload_n (pc := 84) dX11_run_84 rfl 0 rfl ?_
      refine ea_getI (pc := 85) dX11_run_85 ec_11 (k := 11) (Nat.le_of_ble_eq_true rfl) rfl (Or.inl ew_448) (hs.1 0 (by decide)).1 (hs.1 0 (by decide)).2.1 ?_
      have z6 := K
      refine ea_callV (pc := 88) (d' := d - 1) (As := [vI x1, vI x2, vI (ea_i h (b0 + 0) 11)]) (st := []) dX11_run_88 kX9_goneFrom (sX9_goneFrom (d := d - 1) (by omega) hs z6) (by omega) rfl (Nat.le_of_ble_eq_true rfl) ew_1153 ew_1154 ew_1155 (ci := 9) rfl (by decide) (hs.1 5 (by decide)).1 (hs.1 5 (by decide)).2.1 ?_
      have hs7 : ShC b0 (wX9_goneFrom b0 (x1 : Int32) (x2 : Int32) ((ea_i h (b0 + 0) 11) : Int32) h) := shX9_goneFrom hs
      exact ea_iretE (pc := 91) dX11_run_91 rfl rfl EX EY
    have EX := EX.trans (if_neg qc23_2)
    have EY := EY.trans (if_neg qc23_2)
    have K := K.2 qc23_2
    by_cases qc23_3 : Int32.toInt x3 = 3
    · have EX := EX.trans (if_pos qc23_3)
      have K := K.1 qc23_3
      refine ea_tswIn (pc := 23) (tgt := 92) dX11_run_23 (by rw [qc23_3]; decide) (by rw [qc23_3]; decide) (by rw [qc23_3]; rfl) rfl ?_
      refine ea_aload_n (pc := 92) dX11_run_92 rfl 0 rfl ?_
      refine ea_getR (pc := 93) dX11_run_93 ec_11 (k := 6) (Nat.le_of_ble_eq_true rfl) rfl (Or.inl ew_443) (hs.1 0 (by decide)).1 (hs.1 0 (by decide)).2.1 (hs.2 0 6 rfl) ?_
      refine ea_getR (pc := 96) dX11_run_96 ec_1 (k := 6) (Nat.le_of_ble_eq_true rfl) rfl (Or.inl ew_372) (hs.1 32 (by decide)).1 (hs.1 32 (by decide)).2.1 (hs.2 32 6 rfl) ?_
      refine ea_iload (pc := 99) dX11_run_99 4 rfl ?_
      have z8 := K
      refine ea_iald (pc := 101) dX11_run_101 (hs.1 38 (by decide)).1 (hs.1 38 (by decide)).2.1 (ea_vpl (hs.1 38 (by decide)).2.2 z8) ?_
      exact ea_iretE (pc := 102) dX11_run_102 rfl rfl EX EY
    have EX := EX.trans (if_neg qc23_3)
    have K := K.2 qc23_3
    by_cases qc23_4 : Int32.toInt x3 = 4
    · have EX := EX.trans (if_pos qc23_4)
      have K := K.1 qc23_4
      refine ea_tswIn (pc := 23) (tgt := 103) dX11_run_23 (by rw [qc23_4]; decide) (by rw [qc23_4]; decide) (by rw [qc23_4]; rfl) rfl ?_
      refine ea_aload_n (pc := 103) dX11_run_103 rfl 0 rfl ?_
      refine ea_getR (pc := 104) dX11_run_104 ec_11 (k := 1) (Nat.le_of_ble_eq_true rfl) rfl (Or.inl ew_438) (hs.1 0 (by decide)).1 (hs.1 0 (by decide)).2.1 (hs.2 0 1 rfl) ?_
      refine ea_getR (pc := 107) dX11_run_107 ec_9 (k := 6) (Nat.le_of_ble_eq_true rfl) rfl (Or.inl ew_197) (hs.1 5 (by decide)).1 (hs.1 5 (by decide)).2.1 (hs.2 5 6 rfl) ?_
      refine ea_iload (pc := 110) dX11_run_110 4 rfl ?_
      have z9 := K
      refine ea_iald (pc := 112) dX11_run_112 (hs.1 11 (by decide)).1 (hs.1 11 (by decide)).2.1 (ea_vpl (hs.1 11 (by decide)).2.2 z9) ?_
      exact ea_iretE (pc := 113) dX11_run_113 rfl rfl EX EY
    have EX := EX.trans (if_neg qc23_4)
    have K := K.2 qc23_4
    refine ea_tswOut (pc := 23) (tgt := 114) dX11_run_23 (ec_sw_0_4 qc23_0 qc23_1 qc23_2 qc23_3 qc23_4) rfl ?_
    refine ea_iconst (pc := 114) dX11_run_114 (v := (-1)) rfl ?_
    exact ea_iretE (pc := 115) dX11_run_115 rfl rfl EX EY
  · have EX := EX.trans (if_pos c10)
    have EY := EY.trans (if_pos c10)
    refine ea_iconst (pc := 12) dX11_run_12 (v := (-1)) rfl ?_
    exact ea_iretE (pc := 13) dX11_run_13 rfl rfl EX EY
noncomputable def vX11_account (b0 : Nat) (x1 : Int32) (x2 : Int32) (x3 : Int32) (h : ea_H) : Int32 := (if (vX6_has b0 (x1 : Int32) h) = (0 : Int32) then ((-1) : Int32) else (if (vX6_has b0 (x2 : Int32) h) = (0 : Int32) then ((-1) : Int32) else (if x1 = x2 then ((-1) : Int32) else (if Int32.toInt x3 = 0 then (vX11_owedBetween b0 (x1 : Int32) (x2 : Int32) (0 : Int32) h) else (if Int32.toInt x3 = 1 then (vX11_owedBetween b0 (x1 : Int32) (x2 : Int32) (1 : Int32) h) else (if Int32.toInt x3 = 2 then (vX11_differing b0 (x1 : Int32) (x2 : Int32) h) else (if (10 : Int32) ≤ x3 then (vX11_differingLetter b0 (x1 : Int32) (x2 : Int32) ((x3 - (10 : Int32)) : Int32) h) else ((-1) : Int32))))))))
noncomputable def wX11_account (b0 : Nat) (x1 : Int32) (x2 : Int32) (x3 : Int32) (h : ea_H) : ea_H := (if (vX6_has b0 (x1 : Int32) h) = (0 : Int32) then h else (if (vX6_has b0 (x2 : Int32) h) = (0 : Int32) then h else (if x1 = x2 then h else (if Int32.toInt x3 = 0 then (wX11_owedBetween b0 (x1 : Int32) (x2 : Int32) (0 : Int32) h) else (if Int32.toInt x3 = 1 then (wX11_owedBetween b0 (x1 : Int32) (x2 : Int32) (1 : Int32) h) else (if Int32.toInt x3 = 2 then (wX11_differing b0 (x1 : Int32) (x2 : Int32) h) else (if (10 : Int32) ≤ x3 then (wX11_differingLetter b0 (x1 : Int32) (x2 : Int32) ((x3 - (10 : Int32)) : Int32) h) else h)))))))
def okX11_account (b0 : Nat) (x1 : Int32) (x2 : Int32) (x3 : Int32) (h : ea_H) : Prop := ((vX6_has b0 (x1 : Int32) h) = (0 : Int32) → True) ∧ (¬ (vX6_has b0 (x1 : Int32) h) = (0 : Int32) → ((vX6_has b0 (x2 : Int32) h) = (0 : Int32) → True) ∧ (¬ (vX6_has b0 (x2 : Int32) h) = (0 : Int32) → (x1 = x2 → True) ∧ (¬ x1 = x2 → (Int32.toInt x3 = 0 → (okX11_owedBetween b0 (x1 : Int32) (x2 : Int32) (0 : Int32) h)) ∧ (¬ Int32.toInt x3 = 0 → (Int32.toInt x3 = 1 → (okX11_owedBetween b0 (x1 : Int32) (x2 : Int32) (1 : Int32) h)) ∧ (¬ Int32.toInt x3 = 1 → (Int32.toInt x3 = 2 → (okX11_differing b0 (x1 : Int32) (x2 : Int32) h)) ∧ (¬ Int32.toInt x3 = 2 → ((10 : Int32) ≤ x3 → (okX11_differingLetter b0 (x1 : Int32) (x2 : Int32) ((x3 - (10 : Int32)) : Int32) h)) ∧ (¬ (10 : Int32) ≤ x3 → True)))))))
theorem shX11_account {b0 : Nat} {x1 : Int32} {x2 : Int32} {x3 : Int32} {h : ea_H} (hs : ShC b0 h) : ShC b0 (wX11_account b0 x1 x2 x3 h) := (ShC_it hs (ShC_it hs (ShC_it hs (ShC_it (shX11_owedBetween hs) (ShC_it (shX11_owedBetween hs) (ShC_it (shX11_differing hs) (ShC_it (shX11_differingLetter hs) hs)))))))
theorem sX11_account {d : Nat} {b0 : Nat} {x1 : Int32} {x2 : Int32} {x3 : Int32} {h : ea_H} (hd : 4 ≤ d) (hs : ShC b0 h) (K : okX11_account b0 x1 x2 x3 h) : ea_Met mX11_account d [vR (some (b0 + 0)), vI x1, vI x2, vI x3] h (some (vI (vX11_account b0 x1 x2 x3 h))) (wX11_account b0 x1 x2 x3 h) := by
  obtain ⟨X, EX⟩ : ∃ z, z = vX11_account b0 x1 x2 x3 h := ⟨_, rfl⟩
  rw [← EX]
  unfold vX11_account at EX
  obtain ⟨Y, EY⟩ : ∃ z, z = wX11_account b0 x1 x2 x3 h := ⟨_, rfl⟩
  rw [← EY]
  unfold wX11_account at EY
  unfold okX11_account at K
  refine ea_enter rfl (Nat.le_of_ble_eq_true rfl) ?_
  refine ea_aload_n (pc := 0) dX11_account_0 rfl 0 rfl ?_
  refine ea_getR (pc := 1) dX11_account_1 ec_11 (k := 0) (Nat.le_of_ble_eq_true rfl) rfl (Or.inl ew_437) (hs.1 0 (by decide)).1 (hs.1 0 (by decide)).2.1 (hs.2 0 0 rfl) ?_
  refine ea_iload_n (pc := 4) dX11_account_4 rfl 1 rfl ?_
  refine ea_callV (pc := 5) (d' := d - 1) (As := [vI x1]) (st := []) dX11_account_5 kX6_has (sX6_has (d := d - 1) (by omega) hs) (by omega) rfl (Nat.le_of_ble_eq_true rfl) ew_494 ew_495 ew_496 (ci := 6) rfl (by decide) (hs.1 1 (by decide)).1 (hs.1 1 (by decide)).2.1 ?_
  refine ea_if_eq (pc := 8) (tgt := 27) dX11_account_8 rfl (fun c14 => ?_) (fun c14 => ?_)
  · have EX := EX.trans (if_pos c14)
    have EY := EY.trans (if_pos c14)
    refine ea_iconst (pc := 27) dX11_account_27 (v := (-1)) rfl ?_
    exact ea_iretE (pc := 28) dX11_account_28 rfl rfl EX EY
  · have EX := EX.trans (if_neg c14)
    have EY := EY.trans (if_neg c14)
    have K := K.2 c14
    refine ea_aload_n (pc := 11) dX11_account_11 rfl 0 rfl ?_
    refine ea_getR (pc := 12) dX11_account_12 ec_11 (k := 0) (Nat.le_of_ble_eq_true rfl) rfl (Or.inl ew_437) (hs.1 0 (by decide)).1 (hs.1 0 (by decide)).2.1 (hs.2 0 0 rfl) ?_
    refine ea_iload_n (pc := 15) dX11_account_15 rfl 2 rfl ?_
    refine ea_callV (pc := 16) (d' := d - 1) (As := [vI x2]) (st := []) dX11_account_16 kX6_has (sX6_has (d := d - 1) (by omega) hs) (by omega) rfl (Nat.le_of_ble_eq_true rfl) ew_494 ew_495 ew_496 (ci := 6) rfl (by decide) (hs.1 1 (by decide)).1 (hs.1 1 (by decide)).2.1 ?_
    refine ea_if_eq (pc := 19) (tgt := 27) dX11_account_19 rfl (fun c13 => ?_) (fun c13 => ?_)
    · have EX := EX.trans (if_pos c13)
      have EY := EY.trans (if_pos c13)
      refine ea_iconst (pc := 27) dX11_account_27 (v := (-1)) rfl ?_
      exact ea_iretE (pc := 28) dX11_account_28 rfl rfl EX EY
    · have EX := EX.trans (if_neg c13)
      have EY := EY.trans (if_neg c13)
      have K := K.2 c13
      refine ea_iload_n (pc := 22) dX11_account_22 rfl 1 rfl ?_
      refine ea_iload_n (pc := 23) dX11_account_23 rfl 2 rfl ?_
      refine ea_icmp_ne (pc := 24) (tgt := 29) dX11_account_24 rfl (fun c12 => ?_) (fun c12 => ?_)
      · have EX := EX.trans (if_neg c12)
        have EY := EY.trans (if_neg c12)
        have K := K.2 c12
        refine ea_iload_n (pc := 29) dX11_account_29 rfl 3 rfl ?_
        by_cases qc30_0 : Int32.toInt x3 = 0
        · have EX := EX.trans (if_pos qc30_0)
          have EY := EY.trans (if_pos qc30_0)
          have K := K.1 qc30_0
          refine ea_tswIn (pc := 30) (tgt := 56) dX11_account_30 (by rw [qc30_0]; decide) (by rw [qc30_0]; decide) (by rw [qc30_0]; rfl) rfl ?_
          refine ea_aload_n (pc := 56) dX11_account_56 rfl 0 rfl ?_
          refine ea_iload_n (pc := 57) dX11_account_57 rfl 1 rfl ?_
          refine ea_iload_n (pc := 58) dX11_account_58 rfl 2 rfl ?_
          refine ea_iconst (pc := 59) dX11_account_59 (v := 0) rfl ?_
          have z6 := K
          refine ea_callV (pc := 60) (d' := d - 1) (As := [vI x1, vI x2, vI 0]) (st := []) dX11_account_60 kX11_owedBetween (sX11_owedBetween (d := d - 1) (by omega) hs z6) (by omega) rfl (Nat.le_of_ble_eq_true rfl) ew_1162 ew_1164 ew_38 (ci := 11) rfl (by decide) (hs.1 0 (by decide)).1 (hs.1 0 (by decide)).2.1 ?_
          have hs7 : ShC b0 (wX11_owedBetween b0 (x1 : Int32) (x2 : Int32) (0 : Int32) h) := shX11_owedBetween hs
          exact ea_iretE (pc := 63) dX11_account_63 rfl rfl EX EY
        have EX := EX.trans (if_neg qc30_0)
        have EY := EY.trans (if_neg qc30_0)
        have K := K.2 qc30_0
        by_cases qc30_1 : Int32.toInt x3 = 1
        · have EX := EX.trans (if_pos qc30_1)
          have EY := EY.trans (if_pos qc30_1)
          have K := K.1 qc30_1
          refine ea_tswIn (pc := 30) (tgt := 64) dX11_account_30 (by rw [qc30_1]; decide) (by rw [qc30_1]; decide) (by rw [qc30_1]; rfl) rfl ?_
          refine ea_aload_n (pc := 64) dX11_account_64 rfl 0 rfl ?_
          refine ea_iload_n (pc := 65) dX11_account_65 rfl 1 rfl ?_
          refine ea_iload_n (pc := 66) dX11_account_66 rfl 2 rfl ?_
          refine ea_iconst (pc := 67) dX11_account_67 (v := 1) rfl ?_
          have z8 := K
          refine ea_callV (pc := 68) (d' := d - 1) (As := [vI x1, vI x2, vI 1]) (st := []) dX11_account_68 kX11_owedBetween (sX11_owedBetween (d := d - 1) (by omega) hs z8) (by omega) rfl (Nat.le_of_ble_eq_true rfl) ew_1162 ew_1164 ew_38 (ci := 11) rfl (by decide) (hs.1 0 (by decide)).1 (hs.1 0 (by decide)).2.1 ?_
          have hs9 : ShC b0 (wX11_owedBetween b0 (x1 : Int32) (x2 : Int32) (1 : Int32) h) := shX11_owedBetween hs
          exact ea_iretE (pc := 71) dX11_account_71 rfl rfl EX EY
        have EX := EX.trans (if_neg qc30_1)
        have EY := EY.trans (if_neg qc30_1)
        have K := K.2 qc30_1
        by_cases qc30_2 : Int32.toInt x3 = 2
        · have EX := EX.trans (if_pos qc30_2)
          have EY := EY.trans (if_pos qc30_2)
          have K := K.1 qc30_2
          refine ea_tswIn (pc := 30) (tgt := 72) dX11_account_30 (by rw [qc30_2]; decide) (by rw [qc30_2]; decide) (by rw [qc30_2]; rfl) rfl ?_
          refine ea_aload_n (pc := 72) dX11_account_72 rfl 0 rfl ?_
          refine ea_iload_n (pc := 73) dX11_account_73 rfl 1 rfl ?_
          refine ea_iload_n (pc := 74) dX11_account_74 rfl 2 rfl ?_
          have z10 := K
          refine ea_callV (pc := 75) (d' := d - 1) (As := [vI x1, vI x2]) (st := []) dX11_account_75 kX11_differing (sX11_differing (d := d - 1) (by omega) hs z10) (by omega) rfl (Nat.le_of_ble_eq_true rfl) ew_1170 ew_1172 ew_40 (ci := 11) rfl (by decide) (hs.1 0 (by decide)).1 (hs.1 0 (by decide)).2.1 ?_
          have hs11 : ShC b0 (wX11_differing b0 (x1 : Int32) (x2 : Int32) h) := shX11_differing hs
          exact ea_iretE (pc := 78) dX11_account_78 rfl rfl EX EY
        have EX := EX.trans (if_neg qc30_2)
        have EY := EY.trans (if_neg qc30_2)
        have K := K.2 qc30_2
        refine ea_tswOut (pc := 30) (tgt := 79) dX11_account_30 (ec_sw_0_2 qc30_0 qc30_1 qc30_2) rfl ?_
        refine ea_iload_n (pc := 79) dX11_account_79 rfl 3 rfl ?_
        refine ea_bipush (pc := 80) dX11_account_80 (v := 10) rfl ?_
        refine ea_icmp_ge (pc := 82) (tgt := 89) dX11_account_82 rfl (fun c5 => ?_) (fun c5 => ?_)
        · have EX := EX.trans (if_pos c5)
          have EY := EY.trans (if_pos c5)
          have K := K.1 c5
          refine ea_aload_n (pc := 89) dX11_account_89 rfl 0 rfl ?_
          refine ea_iload_n (pc := 90) dX11_account_90 rfl 1 rfl ?_
          refine ea_iload_n (pc := 91) dX11_account_91 rfl 2 rfl ?_
          refine ea_iload_n (pc := 92) dX11_account_92 rfl 3 rfl ?_
          refine ea_bipush (pc := 93) dX11_account_93 (v := 10) rfl ?_
          refine ea_isub (pc := 95) dX11_account_95 ?_
          have z3 := K
          refine ea_callV (pc := 96) (d' := d - 1) (As := [vI x1, vI x2, vI (x3 - (10 : Int32))]) (st := []) dX11_account_96 kX11_differingLetter (sX11_differingLetter (d := d - 1) (by omega) hs z3) (by omega) rfl (Nat.le_of_ble_eq_true rfl) ew_1178 ew_1180 ew_42 (ci := 11) rfl (by decide) (hs.1 0 (by decide)).1 (hs.1 0 (by decide)).2.1 ?_
          have hs4 : ShC b0 (wX11_differingLetter b0 (x1 : Int32) (x2 : Int32) ((x3 - (10 : Int32)) : Int32) h) := shX11_differingLetter hs
          exact ea_iretE (pc := 99) dX11_account_99 rfl rfl EX EY
        · have EX := EX.trans (if_neg c5)
          have EY := EY.trans (if_neg c5)
          refine ea_iconst (pc := 85) dX11_account_85 (v := (-1)) rfl ?_
          refine ea_goto (pc := 86) (tgt := 99) dX11_account_86 rfl ?_
          exact ea_iretE (pc := 99) dX11_account_99 rfl rfl EX EY
      · have EX := EX.trans (if_pos c12)
        have EY := EY.trans (if_pos c12)
        refine ea_iconst (pc := 27) dX11_account_27 (v := (-1)) rfl ?_
        exact ea_iretE (pc := 28) dX11_account_28 rfl rfl EX EY
noncomputable def vX11_place (b0 : Nat) (x1 : Int32) (x2 : Int32) (x3 : Int32) (h : ea_H) : Int32 := (if (vX11_letterOf b0 (x1 : Int32) h) = none then (0 : Int32) else (if (ea_i h (b0 + 33) (Int32.toNatClampNeg x1)) = (3 : Int32) then (if (vX6_has b0 (x2 : Int32) h) = (0 : Int32) then (0 : Int32) else (if x2 = (ea_i h (Option.getD (vX11_letterOf b0 (x1 : Int32) h) 0) 2) then (0 : Int32) else (if x3 < (1 : Int32) then (0 : Int32) else (if x3 ≤ (99 : Int32) then (vX4_tell b0 (Option.getD (vX11_letterOf b0 (x1 : Int32) h) 0) (x2 : Int32) (x3 : Int32) h) else (0 : Int32))))) else (0 : Int32)))
noncomputable def wX11_place (b0 : Nat) (x1 : Int32) (x2 : Int32) (x3 : Int32) (h : ea_H) : ea_H := (if (vX11_letterOf b0 (x1 : Int32) h) = none then h else (if (ea_i h (b0 + 33) (Int32.toNatClampNeg x1)) = (3 : Int32) then (if (vX6_has b0 (x2 : Int32) h) = (0 : Int32) then h else (if x2 = (ea_i h (Option.getD (vX11_letterOf b0 (x1 : Int32) h) 0) 2) then h else (if x3 < (1 : Int32) then h else (if x3 ≤ (99 : Int32) then (wX4_tell b0 (Option.getD (vX11_letterOf b0 (x1 : Int32) h) 0) (x2 : Int32) (x3 : Int32) h) else h)))) else h))
def okX11_place (b0 : Nat) (x1 : Int32) (x2 : Int32) (x3 : Int32) (h : ea_H) : Prop := (okX11_letterOf b0 (x1 : Int32) h) ∧ (((vX11_letterOf b0 (x1 : Int32) h) = none → True) ∧ (¬ (vX11_letterOf b0 (x1 : Int32) h) = none → vp_in x1 120 ∧ (((ea_i h (b0 + 33) (Int32.toNatClampNeg x1)) = (3 : Int32) → ((vX6_has b0 (x2 : Int32) h) = (0 : Int32) → True) ∧ (¬ (vX6_has b0 (x2 : Int32) h) = (0 : Int32) → (vX11_letterOf b0 (x1 : Int32) h) = some (Option.getD (vX11_letterOf b0 (x1 : Int32) h) 0) ∧ (((Option.getD (vX11_letterOf b0 (x1 : Int32) h) 0) < ea_n h ∧ ea_c h (Option.getD (vX11_letterOf b0 (x1 : Int32) h) 0) = 4) ∧ ((x2 = (ea_i h (Option.getD (vX11_letterOf b0 (x1 : Int32) h) 0) 2) → True) ∧ (¬ x2 = (ea_i h (Option.getD (vX11_letterOf b0 (x1 : Int32) h) 0) 2) → (x3 < (1 : Int32) → True) ∧ (¬ x3 < (1 : Int32) → (x3 ≤ (99 : Int32) → (vX11_letterOf b0 (x1 : Int32) h) = some (Option.getD (vX11_letterOf b0 (x1 : Int32) h) 0) ∧ (((Option.getD (vX11_letterOf b0 (x1 : Int32) h) 0) < ea_n h ∧ ea_c h (Option.getD (vX11_letterOf b0 (x1 : Int32) h) 0) = 4) ∧ ((okX4_tell b0 (Option.getD (vX11_letterOf b0 (x1 : Int32) h) 0) (x2 : Int32) (x3 : Int32) h) ∧ (((vX4_tell b0 (Option.getD (vX11_letterOf b0 (x1 : Int32) h) 0) (x2 : Int32) (x3 : Int32) h) = 0 ∨ (vX4_tell b0 (Option.getD (vX11_letterOf b0 (x1 : Int32) h) 0) (x2 : Int32) (x3 : Int32) h) = 1))))) ∧ (¬ x3 ≤ (99 : Int32) → True))))))) ∧ (¬ (ea_i h (b0 + 33) (Int32.toNatClampNeg x1)) = (3 : Int32) → True))))
theorem shX11_place {b0 : Nat} {x1 : Int32} {x2 : Int32} {x3 : Int32} {h : ea_H} (hs : ShC b0 h) : ShC b0 (wX11_place b0 x1 x2 x3 h) := (ShC_it hs (ShC_it (ShC_it hs (ShC_it hs (ShC_it hs (ShC_it (shX4_tell hs) hs)))) hs))
theorem sX11_place {d : Nat} {b0 : Nat} {x1 : Int32} {x2 : Int32} {x3 : Int32} {h : ea_H} (hd : 4 ≤ d) (hs : ShC b0 h) (K : okX11_place b0 x1 x2 x3 h) : ea_Met mX11_place d [vR (some (b0 + 0)), vI x1, vI x2, vI x3] h (some (vI (vX11_place b0 x1 x2 x3 h))) (wX11_place b0 x1 x2 x3 h) := by
  obtain ⟨X, EX⟩ : ∃ z, z = vX11_place b0 x1 x2 x3 h := ⟨_, rfl⟩
  rw [← EX]
  unfold vX11_place at EX
  obtain ⟨Y, EY⟩ : ∃ z, z = wX11_place b0 x1 x2 x3 h := ⟨_, rfl⟩
  rw [← EY]
  unfold wX11_place at EY
  unfold okX11_place at K
  refine ea_enter rfl (Nat.le_of_ble_eq_true rfl) ?_
  refine ea_aload_n (pc := 0) dX11_place_0 rfl 0 rfl ?_
  refine ea_iload_n (pc := 1) dX11_place_1 rfl 1 rfl ?_
  obtain ⟨z1, K⟩ := K
  refine ea_callV (pc := 2) (d' := d - 1) (As := [vI x1]) (st := []) dX11_place_2 kX11_letterOf (sX11_letterOf (d := d - 1) (by omega) hs z1) (by omega) rfl (Nat.le_of_ble_eq_true rfl) ew_1076 ew_1078 ew_37 (ci := 11) rfl (by decide) (hs.1 0 (by decide)).1 (hs.1 0 (by decide)).2.1 ?_
  refine ea_astore (pc := 5) (lv' := [(0, vR (some (b0 + 0))), (1, vI x1), (2, vI x2), (3, vI x3), (4, vR (vX11_letterOf b0 (x1 : Int32) h))]) dX11_place_5 (Nat.le_of_ble_eq_true rfl) [1, 2, 3, 4, 0] rfl ?_
  refine ea_aload (pc := 7) dX11_place_7 4 rfl ?_
  refine ea_ifnull (pc := 9) (tgt := 45) dX11_place_9 rfl (fun c16 => ?_) (fun a17 c16 => ?_)
  · have EX := EX.trans (if_pos c16)
    have EY := EY.trans (if_pos c16)
    refine ea_iconst (pc := 45) dX11_place_45 (v := 0) rfl ?_
    exact ea_iretE (pc := 46) dX11_place_46 rfl (ea_bn (Or.inl rfl)) EX EY
  · have c16n : ¬ (vX11_letterOf b0 (x1 : Int32) h) = none := by rw [c16]; exact fun q => nomatch q
    have EX := EX.trans (if_neg c16n)
    have EY := EY.trans (if_neg c16n)
    have K := K.2 c16n
    refine ea_aload_n (pc := 12) dX11_place_12 rfl 0 rfl ?_
    refine ea_getR (pc := 13) dX11_place_13 ec_11 (k := 6) (Nat.le_of_ble_eq_true rfl) rfl (Or.inl ew_443) (hs.1 0 (by decide)).1 (hs.1 0 (by decide)).2.1 (hs.2 0 6 rfl) ?_
    refine ea_getR (pc := 16) dX11_place_16 ec_1 (k := 1) (Nat.le_of_ble_eq_true rfl) rfl (Or.inl ew_362) (hs.1 32 (by decide)).1 (hs.1 32 (by decide)).2.1 (hs.2 32 1 rfl) ?_
    refine ea_iload_n (pc := 19) dX11_place_19 rfl 1 rfl ?_
    obtain ⟨z2, K⟩ := K
    refine ea_iald (pc := 20) dX11_place_20 (hs.1 33 (by decide)).1 (hs.1 33 (by decide)).2.1 (ea_vpl (hs.1 33 (by decide)).2.2 z2) ?_
    refine ea_iconst (pc := 21) dX11_place_21 (v := 3) rfl ?_
    refine ea_icmp_ne (pc := 22) (tgt := 45) dX11_place_22 rfl (fun c15 => ?_) (fun c15 => ?_)
    · have EX := EX.trans (if_neg c15)
      have EY := EY.trans (if_neg c15)
      refine ea_iconst (pc := 45) dX11_place_45 (v := 0) rfl ?_
      exact ea_iretE (pc := 46) dX11_place_46 rfl (ea_bn (Or.inl rfl)) EX EY
    · have EX := EX.trans (if_pos c15)
      have EY := EY.trans (if_pos c15)
      have K := K.1 c15
      refine ea_aload_n (pc := 25) dX11_place_25 rfl 0 rfl ?_
      refine ea_getR (pc := 26) dX11_place_26 ec_11 (k := 0) (Nat.le_of_ble_eq_true rfl) rfl (Or.inl ew_437) (hs.1 0 (by decide)).1 (hs.1 0 (by decide)).2.1 (hs.2 0 0 rfl) ?_
      refine ea_iload_n (pc := 29) dX11_place_29 rfl 2 rfl ?_
      refine ea_callV (pc := 30) (d' := d - 1) (As := [vI x2]) (st := []) dX11_place_30 kX6_has (sX6_has (d := d - 1) (by omega) hs) (by omega) rfl (Nat.le_of_ble_eq_true rfl) ew_494 ew_495 ew_496 (ci := 6) rfl (by decide) (hs.1 1 (by decide)).1 (hs.1 1 (by decide)).2.1 ?_
      refine ea_if_eq (pc := 33) (tgt := 45) dX11_place_33 rfl (fun c14 => ?_) (fun c14 => ?_)
      · have EX := EX.trans (if_pos c14)
        have EY := EY.trans (if_pos c14)
        refine ea_iconst (pc := 45) dX11_place_45 (v := 0) rfl ?_
        exact ea_iretE (pc := 46) dX11_place_46 rfl (ea_bn (Or.inl rfl)) EX EY
      · have EX := EX.trans (if_neg c14)
        have EY := EY.trans (if_neg c14)
        have K := K.2 c14
        refine ea_iload_n (pc := 36) dX11_place_36 rfl 2 rfl ?_
        refine ea_aload (pc := 37) dX11_place_37 4 rfl ?_
        obtain ⟨e4, f5, K⟩ := K
        refine ea_deref0 e4 ?_
        refine ea_getI (pc := 39) dX11_place_39 ec_4 (k := 2) (Nat.le_of_ble_eq_true rfl) rfl (Or.inl ew_940) f5.1 f5.2 ?_
        refine ea_icmp_ne (pc := 42) (tgt := 47) dX11_place_42 rfl (fun c13 => ?_) (fun c13 => ?_)
        · have EX := EX.trans (if_neg c13)
          have EY := EY.trans (if_neg c13)
          have K := K.2 c13
          refine ea_iload_n (pc := 47) dX11_place_47 rfl 3 rfl ?_
          refine ea_iconst (pc := 48) dX11_place_48 (v := 1) rfl ?_
          refine ea_icmp_lt (pc := 49) (tgt := 58) dX11_place_49 rfl (fun c12 => ?_) (fun c12 => ?_)
          · have EX := EX.trans (if_pos c12)
            have EY := EY.trans (if_pos c12)
            refine ea_iconst (pc := 58) dX11_place_58 (v := 0) rfl ?_
            exact ea_iretE (pc := 59) dX11_place_59 rfl (ea_bn (Or.inl rfl)) EX EY
          · have EX := EX.trans (if_neg c12)
            have EY := EY.trans (if_neg c12)
            have K := K.2 c12
            refine ea_iload_n (pc := 52) dX11_place_52 rfl 3 rfl ?_
            refine ea_bipush (pc := 53) dX11_place_53 (v := 99) rfl ?_
            refine ea_icmp_le (pc := 55) (tgt := 60) dX11_place_55 rfl (fun c11 => ?_) (fun c11 => ?_)
            · have EX := EX.trans (if_pos c11)
              have EY := EY.trans (if_pos c11)
              have K := K.1 c11
              refine ea_aload (pc := 60) dX11_place_60 4 rfl ?_
              refine ea_iload_n (pc := 62) dX11_place_62 rfl 2 rfl ?_
              refine ea_iload_n (pc := 63) dX11_place_63 rfl 3 rfl ?_
              obtain ⟨e6, f7, z8, K⟩ := K
              refine ea_deref2 e6 ?_
              refine ea_callV (pc := 64) (d' := d - 1) (As := [vI x2, vI x3]) (st := []) dX11_place_64 kX4_tell (sX4_tell (d := d - 1) (by omega) hs z8) (by omega) rfl (Nat.le_of_ble_eq_true rfl) ew_1190 ew_1191 ew_1192 (ci := 4) rfl (by decide) f7.1 f7.2 ?_
              have hs9 : ShC b0 (wX4_tell b0 (Option.getD (vX11_letterOf b0 (x1 : Int32) h) 0) (x2 : Int32) (x3 : Int32) h) := shX4_tell hs
              exact ea_iretE (pc := 67) dX11_place_67 rfl (ea_bn K) EX EY
            · have EX := EX.trans (if_neg c11)
              have EY := EY.trans (if_neg c11)
              refine ea_iconst (pc := 58) dX11_place_58 (v := 0) rfl ?_
              exact ea_iretE (pc := 59) dX11_place_59 rfl (ea_bn (Or.inl rfl)) EX EY
        · have EX := EX.trans (if_pos c13)
          have EY := EY.trans (if_pos c13)
          refine ea_iconst (pc := 45) dX11_place_45 (v := 0) rfl ?_
          exact ea_iretE (pc := 46) dX11_place_46 rfl (ea_bn (Or.inl rfl)) EX EY
noncomputable def vX11_seen (b0 : Nat) (x1 : Int32) (x2 : Int32) (h : ea_H) : Int32 := (if (vX9_has b0 (x1 : Int32) h) = (0 : Int32) then (0 : Int32) else (if x2 < (0 : Int32) then (0 : Int32) else (if x2 ≤ (10079 : Int32) then (vX2_learn b0 (Option.getD (ea_r h (b0 + 52) (Int32.toNatClampNeg x1)) 0) ((ea_i h (b0 + 0) 11) : Int32) (x2 : Int32) h) else (0 : Int32))))
noncomputable def wX11_seen (b0 : Nat) (x1 : Int32) (x2 : Int32) (h : ea_H) : ea_H := (if (vX9_has b0 (x1 : Int32) h) = (0 : Int32) then h else (if x2 < (0 : Int32) then h else (if x2 ≤ (10079 : Int32) then (wX2_learn b0 (Option.getD (ea_r h (b0 + 52) (Int32.toNatClampNeg x1)) 0) ((ea_i h (b0 + 0) 11) : Int32) (x2 : Int32) h) else h)))
def okX11_seen (b0 : Nat) (x1 : Int32) (x2 : Int32) (h : ea_H) : Prop := ((vX9_has b0 (x1 : Int32) h) = (0 : Int32) → True) ∧ (¬ (vX9_has b0 (x1 : Int32) h) = (0 : Int32) → (x2 < (0 : Int32) → True) ∧ (¬ x2 < (0 : Int32) → (x2 ≤ (10079 : Int32) → vp_in x1 10 ∧ ((ea_r h (b0 + 52) (Int32.toNatClampNeg x1)) = some (Option.getD (ea_r h (b0 + 52) (Int32.toNatClampNeg x1)) 0) ∧ (((Option.getD (ea_r h (b0 + 52) (Int32.toNatClampNeg x1)) 0) < ea_n h ∧ ea_c h (Option.getD (ea_r h (b0 + 52) (Int32.toNatClampNeg x1)) 0) = 2) ∧ ((okX2_learn b0 (Option.getD (ea_r h (b0 + 52) (Int32.toNatClampNeg x1)) 0) ((ea_i h (b0 + 0) 11) : Int32) (x2 : Int32) h) ∧ (((vX2_learn b0 (Option.getD (ea_r h (b0 + 52) (Int32.toNatClampNeg x1)) 0) ((ea_i h (b0 + 0) 11) : Int32) (x2 : Int32) h) = 0 ∨ (vX2_learn b0 (Option.getD (ea_r h (b0 + 52) (Int32.toNatClampNeg x1)) 0) ((ea_i h (b0 + 0) 11) : Int32) (x2 : Int32) h) = 1)))))) ∧ (¬ x2 ≤ (10079 : Int32) → True)))
theorem shX11_seen {b0 : Nat} {x1 : Int32} {x2 : Int32} {h : ea_H} (hs : ShC b0 h) : ShC b0 (wX11_seen b0 x1 x2 h) := (ShC_it hs (ShC_it hs (ShC_it (shX2_learn hs) hs)))
theorem sX11_seen {d : Nat} {b0 : Nat} {x1 : Int32} {x2 : Int32} {h : ea_H} (hd : 3 ≤ d) (hs : ShC b0 h) (K : okX11_seen b0 x1 x2 h) : ea_Met mX11_seen d [vR (some (b0 + 0)), vI x1, vI x2] h (some (vI (vX11_seen b0 x1 x2 h))) (wX11_seen b0 x1 x2 h) := by
  obtain ⟨X, EX⟩ : ∃ z, z = vX11_seen b0 x1 x2 h := ⟨_, rfl⟩
  rw [← EX]
  unfold vX11_seen at EX
  obtain ⟨Y, EY⟩ : ∃ z, z = wX11_seen b0 x1 x2 h := ⟨_, rfl⟩
  rw [← EY]
  unfold wX11_seen at EY
  unfold okX11_seen at K
  refine ea_enter rfl (Nat.le_of_ble_eq_true rfl) ?_
  refine ea_aload_n (pc := 0) dX11_seen_0 rfl 0 rfl ?_
  refine ea_getR (pc := 1) dX11_seen_1 ec_11 (k := 1) (Nat.le_of_ble_eq_true rfl) rfl (Or.inl ew_438) (hs.1 0 (by decide)).1 (hs.1 0 (by decide)).2.1 (hs.2 0 1 rfl) ?_
  refine ea_iload_n (pc := 4) dX11_seen_4 rfl 1 rfl ?_
  refine ea_callV (pc := 5) (d' := d - 1) (As := [vI x1]) (st := []) dX11_seen_5 kX9_has (sX9_has (d := d - 1) (by omega) hs) (by omega) rfl (Nat.le_of_ble_eq_true rfl) ew_518 ew_519 ew_520 (ci := 9) rfl (by decide) (hs.1 5 (by decide)).1 (hs.1 5 (by decide)).2.1 ?_
  refine ea_if_eq (pc := 8) (tgt := 22) dX11_seen_8 rfl (fun c10 => ?_) (fun c10 => ?_)
  · have EX := EX.trans (if_pos c10)
    have EY := EY.trans (if_pos c10)
    refine ea_iconst (pc := 22) dX11_seen_22 (v := 0) rfl ?_
    exact ea_iretE (pc := 23) dX11_seen_23 rfl (ea_bn (Or.inl rfl)) EX EY
  · have EX := EX.trans (if_neg c10)
    have EY := EY.trans (if_neg c10)
    have K := K.2 c10
    refine ea_iload_n (pc := 11) dX11_seen_11 rfl 2 rfl ?_
    refine ea_if_lt (pc := 12) (tgt := 22) dX11_seen_12 rfl (fun c9 => ?_) (fun c9 => ?_)
    · have EX := EX.trans (if_pos c9)
      have EY := EY.trans (if_pos c9)
      refine ea_iconst (pc := 22) dX11_seen_22 (v := 0) rfl ?_
      exact ea_iretE (pc := 23) dX11_seen_23 rfl (ea_bn (Or.inl rfl)) EX EY
    · have EX := EX.trans (if_neg c9)
      have EY := EY.trans (if_neg c9)
      have K := K.2 c9
      refine ea_iload_n (pc := 15) dX11_seen_15 rfl 2 rfl ?_
      refine ea_sipush (pc := 16) dX11_seen_16 (v := 10079) rfl ?_
      refine ea_icmp_le (pc := 19) (tgt := 24) dX11_seen_19 rfl (fun c8 => ?_) (fun c8 => ?_)
      · have EX := EX.trans (if_pos c8)
        have EY := EY.trans (if_pos c8)
        have K := K.1 c8
        refine ea_aload_n (pc := 24) dX11_seen_24 rfl 0 rfl ?_
        refine ea_getR (pc := 25) dX11_seen_25 ec_11 (k := 8) (Nat.le_of_ble_eq_true rfl) rfl (Or.inl ew_445) (hs.1 0 (by decide)).1 (hs.1 0 (by decide)).2.1 (hs.2 0 8 rfl) ?_
        refine ea_iload_n (pc := 28) dX11_seen_28 rfl 1 rfl ?_
        obtain ⟨z2, K⟩ := K
        refine ea_aald24 (pc := 29) dX11_seen_29 (hs.1 52 (by decide)).1 (hs.1 52 (by decide)).2.1 (ea_vpl (hs.1 52 (by decide)).2.2 z2) rfl ?_
        refine ea_aload_n (pc := 30) dX11_seen_30 rfl 0 rfl ?_
        refine ea_getI (pc := 31) dX11_seen_31 ec_11 (k := 11) (Nat.le_of_ble_eq_true rfl) rfl (Or.inl ew_448) (hs.1 0 (by decide)).1 (hs.1 0 (by decide)).2.1 ?_
        refine ea_iload_n (pc := 34) dX11_seen_34 rfl 2 rfl ?_
        obtain ⟨e3, f4, z5, K⟩ := K
        refine ea_deref2 e3 ?_
        refine ea_callV (pc := 35) (d' := d - 1) (As := [vI (ea_i h (b0 + 0) 11), vI x2]) (st := []) dX11_seen_35 kX2_learn (sX2_learn (d := d - 1) (by omega) hs z5) (by omega) rfl (Nat.le_of_ble_eq_true rfl) ew_1280 ew_1281 ew_1282 (ci := 2) rfl (by decide) f4.1 f4.2 ?_
        have hs6 : ShC b0 (wX2_learn b0 (Option.getD (ea_r h (b0 + 52) (Int32.toNatClampNeg x1)) 0) ((ea_i h (b0 + 0) 11) : Int32) (x2 : Int32) h) := shX2_learn hs
        exact ea_iretE (pc := 38) dX11_seen_38 rfl (ea_bn K) EX EY
      · have EX := EX.trans (if_neg c8)
        have EY := EY.trans (if_neg c8)
        refine ea_iconst (pc := 22) dX11_seen_22 (v := 0) rfl ?_
        exact ea_iretE (pc := 23) dX11_seen_23 rfl (ea_bn (Or.inl rfl)) EX EY
noncomputable def vX11_isUnderWay (b0 : Nat) (x1 : Int32) (x2 : Int32) (h : ea_H) : Int32 := (if (vX9_goneFrom b0 (x1 : Int32) (x2 : Int32) ((ea_i h (b0 + 0) 11) : Int32) h) = ((-1) : Int32) then (0 : Int32) else (if (vX9_comesAt b0 (x1 : Int32) (x2 : Int32) (((vX9_goneFrom b0 (x1 : Int32) (x2 : Int32) ((ea_i h (b0 + 0) 11) : Int32) h) + (1 : Int32)) : Int32) (wX9_goneFrom b0 (x1 : Int32) (x2 : Int32) ((ea_i h (b0 + 0) 11) : Int32) h)) ≤ (ea_i (wX9_goneFrom b0 (x1 : Int32) (x2 : Int32) ((ea_i h (b0 + 0) 11) : Int32) h) (b0 + 0) 11) then (0 : Int32) else (1 : Int32)))
noncomputable def wX11_isUnderWay (b0 : Nat) (x1 : Int32) (x2 : Int32) (h : ea_H) : ea_H := (wX9_goneFrom b0 (x1 : Int32) (x2 : Int32) ((ea_i h (b0 + 0) 11) : Int32) h)
def okX11_isUnderWay (b0 : Nat) (x1 : Int32) (x2 : Int32) (h : ea_H) : Prop := (okX9_goneFrom b0 (x1 : Int32) (x2 : Int32) ((ea_i h (b0 + 0) 11) : Int32) h) ∧ (((vX9_goneFrom b0 (x1 : Int32) (x2 : Int32) ((ea_i h (b0 + 0) 11) : Int32) h) = ((-1) : Int32) → True) ∧ (¬ (vX9_goneFrom b0 (x1 : Int32) (x2 : Int32) ((ea_i h (b0 + 0) 11) : Int32) h) = ((-1) : Int32) → (okX9_comesAt b0 (x1 : Int32) (x2 : Int32) (((vX9_goneFrom b0 (x1 : Int32) (x2 : Int32) ((ea_i h (b0 + 0) 11) : Int32) h) + (1 : Int32)) : Int32) (wX9_goneFrom b0 (x1 : Int32) (x2 : Int32) ((ea_i h (b0 + 0) 11) : Int32) h))))
theorem bo_vX11_isUnderWay (b0 : Nat) (x1 : Int32) (x2 : Int32) (h : ea_H) : vX11_isUnderWay b0 x1 x2 h = 0 ∨ vX11_isUnderWay b0 x1 x2 h = 1 := (ea_itB (Or.inl rfl) (ea_itB (Or.inl rfl) (Or.inr rfl)))
theorem shX11_isUnderWay {b0 : Nat} {x1 : Int32} {x2 : Int32} {h : ea_H} (hs : ShC b0 h) : ShC b0 (wX11_isUnderWay b0 x1 x2 h) := (shX9_goneFrom hs)
theorem sX11_isUnderWay {d : Nat} {b0 : Nat} {x1 : Int32} {x2 : Int32} {h : ea_H} (hd : 3 ≤ d) (hs : ShC b0 h) (K : okX11_isUnderWay b0 x1 x2 h) : ea_Met mX11_isUnderWay d [vR (some (b0 + 0)), vI x1, vI x2] h (some (vI (vX11_isUnderWay b0 x1 x2 h))) (wX11_isUnderWay b0 x1 x2 h) := by
  obtain ⟨X, EX⟩ : ∃ z, z = vX11_isUnderWay b0 x1 x2 h := ⟨_, rfl⟩
  rw [← EX]
  unfold vX11_isUnderWay at EX
  obtain ⟨Y, EY⟩ : ∃ z, z = wX11_isUnderWay b0 x1 x2 h := ⟨_, rfl⟩
  rw [← EY]
  unfold wX11_isUnderWay at EY
  unfold okX11_isUnderWay at K
  refine ea_enter rfl (Nat.le_of_ble_eq_true rfl) ?_
  refine ea_aload_n (pc := 0) dX11_isUnderWay_0 rfl 0 rfl ?_
  refine ea_getR (pc := 1) dX11_isUnderWay_1 ec_11 (k := 1) (Nat.le_of_ble_eq_true rfl) rfl (Or.inl ew_438) (hs.1 0 (by decide)).1 (hs.1 0 (by decide)).2.1 (hs.2 0 1 rfl) ?_
  refine ea_iload_n (pc := 4) dX11_isUnderWay_4 rfl 1 rfl ?_
  refine ea_iload_n (pc := 5) dX11_isUnderWay_5 rfl 2 rfl ?_
  refine ea_aload_n (pc := 6) dX11_isUnderWay_6 rfl 0 rfl ?_
  refine ea_getI (pc := 7) dX11_isUnderWay_7 ec_11 (k := 11) (Nat.le_of_ble_eq_true rfl) rfl (Or.inl ew_448) (hs.1 0 (by decide)).1 (hs.1 0 (by decide)).2.1 ?_
  obtain ⟨z1, K⟩ := K
  refine ea_callV (pc := 10) (d' := d - 1) (As := [vI x1, vI x2, vI (ea_i h (b0 + 0) 11)]) (st := []) dX11_isUnderWay_10 kX9_goneFrom (sX9_goneFrom (d := d - 1) (by omega) hs z1) (by omega) rfl (Nat.le_of_ble_eq_true rfl) ew_1153 ew_1154 ew_1155 (ci := 9) rfl (by decide) (hs.1 5 (by decide)).1 (hs.1 5 (by decide)).2.1 ?_
  have hs2 : ShC b0 (wX9_goneFrom b0 (x1 : Int32) (x2 : Int32) ((ea_i h (b0 + 0) 11) : Int32) h) := shX9_goneFrom hs
  refine ea_istore_n (pc := 13) (lv' := [(0, vR (some (b0 + 0))), (1, vI x1), (2, vI x2), (3, vI (vX9_goneFrom b0 (x1 : Int32) (x2 : Int32) ((ea_i h (b0 + 0) 11) : Int32) h))]) dX11_isUnderWay_13 rfl (Nat.le_of_ble_eq_true rfl) [1, 2, 3, 0] rfl ?_
  refine ea_iload_n (pc := 14) dX11_isUnderWay_14 rfl 3 rfl ?_
  refine ea_iconst (pc := 15) dX11_isUnderWay_15 (v := (-1)) rfl ?_
  refine ea_icmp_eq (pc := 16) (tgt := 42) dX11_isUnderWay_16 rfl (fun c5 => ?_) (fun c5 => ?_)
  · have EX := EX.trans (if_pos c5)
    refine ea_iconst (pc := 42) dX11_isUnderWay_42 (v := 0) rfl ?_
    exact ea_iretE (pc := 43) dX11_isUnderWay_43 rfl (ea_bn (Or.inl rfl)) EX EY
  · have EX := EX.trans (if_neg c5)
    have K := K.2 c5
    refine ea_aload_n (pc := 19) dX11_isUnderWay_19 rfl 0 rfl ?_
    refine ea_getR (pc := 20) dX11_isUnderWay_20 ec_11 (k := 1) (Nat.le_of_ble_eq_true rfl) rfl (Or.inl ew_438) (hs2.1 0 (by decide)).1 (hs2.1 0 (by decide)).2.1 (hs2.2 0 1 rfl) ?_
    refine ea_iload_n (pc := 23) dX11_isUnderWay_23 rfl 1 rfl ?_
    refine ea_iload_n (pc := 24) dX11_isUnderWay_24 rfl 2 rfl ?_
    refine ea_iload_n (pc := 25) dX11_isUnderWay_25 rfl 3 rfl ?_
    refine ea_iconst (pc := 26) dX11_isUnderWay_26 (v := 1) rfl ?_
    refine ea_iadd (pc := 27) dX11_isUnderWay_27 ?_
    have z3 := K
    refine ea_callV (pc := 28) (d' := d - 1) (As := [vI x1, vI x2, vI ((vX9_goneFrom b0 (x1 : Int32) (x2 : Int32) ((ea_i h (b0 + 0) 11) : Int32) h) + (1 : Int32))]) (st := []) dX11_isUnderWay_28 kX9_comesAt (sX9_comesAt (d := d - 1) (by omega) hs2 z3) (by omega) rfl (Nat.le_of_ble_eq_true rfl) ew_551 ew_552 ew_553 (ci := 9) rfl (by decide) (hs2.1 5 (by decide)).1 (hs2.1 5 (by decide)).2.1 ?_
    refine ea_aload_n (pc := 31) dX11_isUnderWay_31 rfl 0 rfl ?_
    refine ea_getI (pc := 32) dX11_isUnderWay_32 ec_11 (k := 11) (Nat.le_of_ble_eq_true rfl) rfl (Or.inl ew_448) (hs2.1 0 (by decide)).1 (hs2.1 0 (by decide)).2.1 ?_
    refine ea_icmp_le (pc := 35) (tgt := 42) dX11_isUnderWay_35 rfl (fun c4 => ?_) (fun c4 => ?_)
    · have EX := EX.trans (if_pos c4)
      refine ea_iconst (pc := 42) dX11_isUnderWay_42 (v := 0) rfl ?_
      exact ea_iretE (pc := 43) dX11_isUnderWay_43 rfl (ea_bn (Or.inl rfl)) EX EY
    · have EX := EX.trans (if_neg c4)
      refine ea_iconst (pc := 38) dX11_isUnderWay_38 (v := 1) rfl ?_
      refine ea_goto (pc := 39) (tgt := 43) dX11_isUnderWay_39 rfl ?_
      exact ea_iretE (pc := 43) dX11_isUnderWay_43 rfl (ea_bn (Or.inr rfl)) EX EY
noncomputable def wX6_lay (b0 : Nat) (x1 : Int32) (x2 : Int32) (x3 : Int32) (h : ea_H) : ea_H := (wX6_reckon b0 ((some (b0 + 4)) : Option Nat) (1 : Int32) (wX6_reckon b0 ((some (b0 + 3)) : Option Nat) (0 : Int32) (ea_wi (ea_wi h (b0 + 2) (Int32.toNatClampNeg (((12 : Int32) * x1) + x2)) x3) (b0 + 2) (Int32.toNatClampNeg (((12 : Int32) * x2) + x1)) x3)))
def okX6_lay (b0 : Nat) (x1 : Int32) (x2 : Int32) (x3 : Int32) (h : ea_H) : Prop := vp_in (((12 : Int32) * x1) + x2) 144 ∧ (vp_in (((12 : Int32) * x2) + x1) 144 ∧ ((okX6_reckon b0 ((some (b0 + 3)) : Option Nat) (0 : Int32) (ea_wi (ea_wi h (b0 + 2) (Int32.toNatClampNeg (((12 : Int32) * x1) + x2)) x3) (b0 + 2) (Int32.toNatClampNeg (((12 : Int32) * x2) + x1)) x3)) ∧ ((okX6_reckon b0 ((some (b0 + 4)) : Option Nat) (1 : Int32) (wX6_reckon b0 ((some (b0 + 3)) : Option Nat) (0 : Int32) (ea_wi (ea_wi h (b0 + 2) (Int32.toNatClampNeg (((12 : Int32) * x1) + x2)) x3) (b0 + 2) (Int32.toNatClampNeg (((12 : Int32) * x2) + x1)) x3))))))
theorem shX6_lay {b0 : Nat} {x1 : Int32} {x2 : Int32} {x3 : Int32} {h : ea_H} (hs : ShC b0 h) : ShC b0 (wX6_lay b0 x1 x2 x3 h) := (shX6_reckon (shX6_reckon (ShC_wi (ShC_wi hs))))
theorem sX6_lay {d : Nat} {b0 : Nat} {x1 : Int32} {x2 : Int32} {x3 : Int32} {h : ea_H} (hd : 3 ≤ d) (hs : ShC b0 h) (K : okX6_lay b0 x1 x2 x3 h) : ea_Met mX6_lay d [vR (some (b0 + 1)), vI x1, vI x2, vI x3] h none (wX6_lay b0 x1 x2 x3 h) := by
  obtain ⟨Y, EY⟩ : ∃ z, z = wX6_lay b0 x1 x2 x3 h := ⟨_, rfl⟩
  rw [← EY]
  unfold wX6_lay at EY
  unfold okX6_lay at K
  refine ea_enter rfl (Nat.le_of_ble_eq_true rfl) ?_
  refine ea_aload_n (pc := 0) dX6_lay_0 rfl 0 rfl ?_
  refine ea_getR (pc := 1) dX6_lay_1 ec_6 (k := 1) (Nat.le_of_ble_eq_true rfl) rfl (Or.inl ew_158) (hs.1 1 (by decide)).1 (hs.1 1 (by decide)).2.1 (hs.2 1 1 rfl) ?_
  refine ea_bipush (pc := 4) dX6_lay_4 (v := 12) rfl ?_
  refine ea_iload_n (pc := 6) dX6_lay_6 rfl 1 rfl ?_
  refine ea_imul (pc := 7) dX6_lay_7 ?_
  refine ea_iload_n (pc := 8) dX6_lay_8 rfl 2 rfl ?_
  refine ea_iadd (pc := 9) dX6_lay_9 ?_
  refine ea_iload_n (pc := 10) dX6_lay_10 rfl 3 rfl ?_
  obtain ⟨z1, K⟩ := K
  refine ea_iast (pc := 11) dX6_lay_11 (hs.1 2 (by decide)).1 (hs.1 2 (by decide)).2.1 (ea_vpl (hs.1 2 (by decide)).2.2 z1) ?_
  have hs2 : ShC b0 (ea_wi h (b0 + 2) (Int32.toNatClampNeg (((12 : Int32) * x1) + x2)) x3) := ShC_wi hs
  refine ea_aload_n (pc := 12) dX6_lay_12 rfl 0 rfl ?_
  refine ea_getR (pc := 13) dX6_lay_13 ec_6 (k := 1) (Nat.le_of_ble_eq_true rfl) rfl (Or.inl ew_158) (hs2.1 1 (by decide)).1 (hs2.1 1 (by decide)).2.1 (hs2.2 1 1 rfl) ?_
  refine ea_bipush (pc := 16) dX6_lay_16 (v := 12) rfl ?_
  refine ea_iload_n (pc := 18) dX6_lay_18 rfl 2 rfl ?_
  refine ea_imul (pc := 19) dX6_lay_19 ?_
  refine ea_iload_n (pc := 20) dX6_lay_20 rfl 1 rfl ?_
  refine ea_iadd (pc := 21) dX6_lay_21 ?_
  refine ea_iload_n (pc := 22) dX6_lay_22 rfl 3 rfl ?_
  obtain ⟨z3, K⟩ := K
  refine ea_iast (pc := 23) dX6_lay_23 (hs2.1 2 (by decide)).1 (hs2.1 2 (by decide)).2.1 (ea_vpl (hs2.1 2 (by decide)).2.2 z3) ?_
  have hs4 : ShC b0 (ea_wi (ea_wi h (b0 + 2) (Int32.toNatClampNeg (((12 : Int32) * x1) + x2)) x3) (b0 + 2) (Int32.toNatClampNeg (((12 : Int32) * x2) + x1)) x3) := ShC_wi hs2
  refine ea_aload_n (pc := 24) dX6_lay_24 rfl 0 rfl ?_
  refine ea_aload_n (pc := 25) dX6_lay_25 rfl 0 rfl ?_
  refine ea_getR (pc := 26) dX6_lay_26 ec_6 (k := 2) (Nat.le_of_ble_eq_true rfl) rfl (Or.inl ew_159) (hs4.1 1 (by decide)).1 (hs4.1 1 (by decide)).2.1 (hs4.2 1 2 rfl) ?_
  refine ea_iconst (pc := 29) dX6_lay_29 (v := 0) rfl ?_
  obtain ⟨z5, K⟩ := K
  refine ea_callV (pc := 30) (d' := d - 1) (As := [vR (some (b0 + 3)), vI 0]) (st := []) dX6_lay_30 kX6_reckon (sX6_reckon (d := d - 1) (by omega) hs4 z5) (by omega) rfl (Nat.le_of_ble_eq_true rfl) ew_146 ew_148 ew_0 (ci := 6) rfl (by decide) (hs4.1 1 (by decide)).1 (hs4.1 1 (by decide)).2.1 ?_
  have hs6 : ShC b0 (wX6_reckon b0 ((some (b0 + 3)) : Option Nat) (0 : Int32) (ea_wi (ea_wi h (b0 + 2) (Int32.toNatClampNeg (((12 : Int32) * x1) + x2)) x3) (b0 + 2) (Int32.toNatClampNeg (((12 : Int32) * x2) + x1)) x3)) := shX6_reckon hs4
  refine ea_aload_n (pc := 33) dX6_lay_33 rfl 0 rfl ?_
  refine ea_aload_n (pc := 34) dX6_lay_34 rfl 0 rfl ?_
  refine ea_getR (pc := 35) dX6_lay_35 ec_6 (k := 3) (Nat.le_of_ble_eq_true rfl) rfl (Or.inl ew_160) (hs6.1 1 (by decide)).1 (hs6.1 1 (by decide)).2.1 (hs6.2 1 3 rfl) ?_
  refine ea_iconst (pc := 38) dX6_lay_38 (v := 1) rfl ?_
  have z7 := K
  refine ea_callV (pc := 39) (d' := d - 1) (As := [vR (some (b0 + 4)), vI 1]) (st := []) dX6_lay_39 kX6_reckon (sX6_reckon (d := d - 1) (by omega) hs6 z7) (by omega) rfl (Nat.le_of_ble_eq_true rfl) ew_146 ew_148 ew_0 (ci := 6) rfl (by decide) (hs6.1 1 (by decide)).1 (hs6.1 1 (by decide)).2.1 ?_
  have hs8 : ShC b0 (wX6_reckon b0 ((some (b0 + 4)) : Option Nat) (1 : Int32) (wX6_reckon b0 ((some (b0 + 3)) : Option Nat) (0 : Int32) (ea_wi (ea_wi h (b0 + 2) (Int32.toNatClampNeg (((12 : Int32) * x1) + x2)) x3) (b0 + 2) (Int32.toNatClampNeg (((12 : Int32) * x2) + x1)) x3))) := shX6_reckon hs6
  exact ea_vretE (pc := 42) dX6_lay_42 rfl EY
noncomputable def vX11_road (b0 : Nat) (x1 : Int32) (x2 : Int32) (x3 : Int32) (h : ea_H) : Int32 := (if (vX6_has b0 (x1 : Int32) h) = (0 : Int32) then (0 : Int32) else (if (vX6_has b0 (x2 : Int32) h) = (0 : Int32) then (0 : Int32) else (if x1 = x2 then (0 : Int32) else (if x3 < (1 : Int32) then (0 : Int32) else (if x3 ≤ (999 : Int32) then (1 : Int32) else (0 : Int32))))))
noncomputable def wX11_road (b0 : Nat) (x1 : Int32) (x2 : Int32) (x3 : Int32) (h : ea_H) : ea_H := (if (vX6_has b0 (x1 : Int32) h) = (0 : Int32) then h else (if (vX6_has b0 (x2 : Int32) h) = (0 : Int32) then h else (if x1 = x2 then h else (if x3 < (1 : Int32) then h else (if x3 ≤ (999 : Int32) then (wX6_lay b0 (x1 : Int32) (x2 : Int32) (x3 : Int32) h) else h)))))
def okX11_road (b0 : Nat) (x1 : Int32) (x2 : Int32) (x3 : Int32) (h : ea_H) : Prop := ((vX6_has b0 (x1 : Int32) h) = (0 : Int32) → True) ∧ (¬ (vX6_has b0 (x1 : Int32) h) = (0 : Int32) → ((vX6_has b0 (x2 : Int32) h) = (0 : Int32) → True) ∧ (¬ (vX6_has b0 (x2 : Int32) h) = (0 : Int32) → (x1 = x2 → True) ∧ (¬ x1 = x2 → (x3 < (1 : Int32) → True) ∧ (¬ x3 < (1 : Int32) → (x3 ≤ (999 : Int32) → (okX6_lay b0 (x1 : Int32) (x2 : Int32) (x3 : Int32) h)) ∧ (¬ x3 ≤ (999 : Int32) → True)))))
theorem bo_vX11_road (b0 : Nat) (x1 : Int32) (x2 : Int32) (x3 : Int32) (h : ea_H) : vX11_road b0 x1 x2 x3 h = 0 ∨ vX11_road b0 x1 x2 x3 h = 1 := (ea_itB (Or.inl rfl) (ea_itB (Or.inl rfl) (ea_itB (Or.inl rfl) (ea_itB (Or.inl rfl) (ea_itB (Or.inr rfl) (Or.inl rfl))))))
theorem shX11_road {b0 : Nat} {x1 : Int32} {x2 : Int32} {x3 : Int32} {h : ea_H} (hs : ShC b0 h) : ShC b0 (wX11_road b0 x1 x2 x3 h) := (ShC_it hs (ShC_it hs (ShC_it hs (ShC_it hs (ShC_it (shX6_lay hs) hs)))))
theorem sX11_road {d : Nat} {b0 : Nat} {x1 : Int32} {x2 : Int32} {x3 : Int32} {h : ea_H} (hd : 4 ≤ d) (hs : ShC b0 h) (K : okX11_road b0 x1 x2 x3 h) : ea_Met mX11_road d [vR (some (b0 + 0)), vI x1, vI x2, vI x3] h (some (vI (vX11_road b0 x1 x2 x3 h))) (wX11_road b0 x1 x2 x3 h) := by
  obtain ⟨X, EX⟩ : ∃ z, z = vX11_road b0 x1 x2 x3 h := ⟨_, rfl⟩
  rw [← EX]
  unfold vX11_road at EX
  obtain ⟨Y, EY⟩ : ∃ z, z = wX11_road b0 x1 x2 x3 h := ⟨_, rfl⟩
  rw [← EY]
  unfold wX11_road at EY
  unfold okX11_road at K
  refine ea_enter rfl (Nat.le_of_ble_eq_true rfl) ?_
  refine ea_aload_n (pc := 0) dX11_road_0 rfl 0 rfl ?_
  refine ea_getR (pc := 1) dX11_road_1 ec_11 (k := 0) (Nat.le_of_ble_eq_true rfl) rfl (Or.inl ew_437) (hs.1 0 (by decide)).1 (hs.1 0 (by decide)).2.1 (hs.2 0 0 rfl) ?_
  refine ea_iload_n (pc := 4) dX11_road_4 rfl 1 rfl ?_
  refine ea_callV (pc := 5) (d' := d - 1) (As := [vI x1]) (st := []) dX11_road_5 kX6_has (sX6_has (d := d - 1) (by omega) hs) (by omega) rfl (Nat.le_of_ble_eq_true rfl) ew_494 ew_495 ew_496 (ci := 6) rfl (by decide) (hs.1 1 (by decide)).1 (hs.1 1 (by decide)).2.1 ?_
  refine ea_if_eq (pc := 8) (tgt := 39) dX11_road_8 rfl (fun c9 => ?_) (fun c9 => ?_)
  · have EX := EX.trans (if_pos c9)
    have EY := EY.trans (if_pos c9)
    refine ea_iconst (pc := 39) dX11_road_39 (v := 0) rfl ?_
    exact ea_iretE (pc := 40) dX11_road_40 rfl (ea_bn (Or.inl rfl)) EX EY
  · have EX := EX.trans (if_neg c9)
    have EY := EY.trans (if_neg c9)
    have K := K.2 c9
    refine ea_aload_n (pc := 11) dX11_road_11 rfl 0 rfl ?_
    refine ea_getR (pc := 12) dX11_road_12 ec_11 (k := 0) (Nat.le_of_ble_eq_true rfl) rfl (Or.inl ew_437) (hs.1 0 (by decide)).1 (hs.1 0 (by decide)).2.1 (hs.2 0 0 rfl) ?_
    refine ea_iload_n (pc := 15) dX11_road_15 rfl 2 rfl ?_
    refine ea_callV (pc := 16) (d' := d - 1) (As := [vI x2]) (st := []) dX11_road_16 kX6_has (sX6_has (d := d - 1) (by omega) hs) (by omega) rfl (Nat.le_of_ble_eq_true rfl) ew_494 ew_495 ew_496 (ci := 6) rfl (by decide) (hs.1 1 (by decide)).1 (hs.1 1 (by decide)).2.1 ?_
    refine ea_if_eq (pc := 19) (tgt := 39) dX11_road_19 rfl (fun c8 => ?_) (fun c8 => ?_)
    · have EX := EX.trans (if_pos c8)
      have EY := EY.trans (if_pos c8)
      refine ea_iconst (pc := 39) dX11_road_39 (v := 0) rfl ?_
      exact ea_iretE (pc := 40) dX11_road_40 rfl (ea_bn (Or.inl rfl)) EX EY
    · have EX := EX.trans (if_neg c8)
      have EY := EY.trans (if_neg c8)
      have K := K.2 c8
      refine ea_iload_n (pc := 22) dX11_road_22 rfl 1 rfl ?_
      refine ea_iload_n (pc := 23) dX11_road_23 rfl 2 rfl ?_
      refine ea_icmp_eq (pc := 24) (tgt := 39) dX11_road_24 rfl (fun c7 => ?_) (fun c7 => ?_)
      · have EX := EX.trans (if_pos c7)
        have EY := EY.trans (if_pos c7)
        refine ea_iconst (pc := 39) dX11_road_39 (v := 0) rfl ?_
        exact ea_iretE (pc := 40) dX11_road_40 rfl (ea_bn (Or.inl rfl)) EX EY
      · have EX := EX.trans (if_neg c7)
        have EY := EY.trans (if_neg c7)
        have K := K.2 c7
        refine ea_iload_n (pc := 27) dX11_road_27 rfl 3 rfl ?_
        refine ea_iconst (pc := 28) dX11_road_28 (v := 1) rfl ?_
        refine ea_icmp_lt (pc := 29) (tgt := 39) dX11_road_29 rfl (fun c6 => ?_) (fun c6 => ?_)
        · have EX := EX.trans (if_pos c6)
          have EY := EY.trans (if_pos c6)
          refine ea_iconst (pc := 39) dX11_road_39 (v := 0) rfl ?_
          exact ea_iretE (pc := 40) dX11_road_40 rfl (ea_bn (Or.inl rfl)) EX EY
        · have EX := EX.trans (if_neg c6)
          have EY := EY.trans (if_neg c6)
          have K := K.2 c6
          refine ea_iload_n (pc := 32) dX11_road_32 rfl 3 rfl ?_
          refine ea_sipush (pc := 33) dX11_road_33 (v := 999) rfl ?_
          refine ea_icmp_le (pc := 36) (tgt := 41) dX11_road_36 rfl (fun c5 => ?_) (fun c5 => ?_)
          · have EX := EX.trans (if_pos c5)
            have EY := EY.trans (if_pos c5)
            have K := K.1 c5
            refine ea_aload_n (pc := 41) dX11_road_41 rfl 0 rfl ?_
            refine ea_getR (pc := 42) dX11_road_42 ec_11 (k := 0) (Nat.le_of_ble_eq_true rfl) rfl (Or.inl ew_437) (hs.1 0 (by decide)).1 (hs.1 0 (by decide)).2.1 (hs.2 0 0 rfl) ?_
            refine ea_iload_n (pc := 45) dX11_road_45 rfl 1 rfl ?_
            refine ea_iload_n (pc := 46) dX11_road_46 rfl 2 rfl ?_
            refine ea_iload_n (pc := 47) dX11_road_47 rfl 3 rfl ?_
            have z3 := K
            refine ea_callV (pc := 48) (d' := d - 1) (As := [vI x1, vI x2, vI x3]) (st := []) dX11_road_48 kX6_lay (sX6_lay (d := d - 1) (by omega) hs z3) (by omega) rfl (Nat.le_of_ble_eq_true rfl) ew_498 ew_499 ew_500 (ci := 6) rfl (by decide) (hs.1 1 (by decide)).1 (hs.1 1 (by decide)).2.1 ?_
            have hs4 : ShC b0 (wX6_lay b0 (x1 : Int32) (x2 : Int32) (x3 : Int32) h) := shX6_lay hs
            refine ea_iconst (pc := 51) dX11_road_51 (v := 1) rfl ?_
            exact ea_iretE (pc := 52) dX11_road_52 rfl (ea_bn (Or.inr rfl)) EX EY
          · have EX := EX.trans (if_neg c5)
            have EY := EY.trans (if_neg c5)
            refine ea_iconst (pc := 39) dX11_road_39 (v := 0) rfl ?_
            exact ea_iretE (pc := 40) dX11_road_40 rfl (ea_bn (Or.inl rfl)) EX EY
noncomputable def gX11_inForce (b0 : Nat) : Nat → Nat → Int32 → Int32 → ea_H → Option (Int32 × ea_H)
  | 0, _, _, _, _ => none
  | f + 1, lbl, x1, x2, h =>
    (if x1 < (0 : Int32) then (some (((-1) : Int32), h)) else (if x1 < (7 : Int32) then (gd ((okX8_numberOn b0 (x1 : Int32) h)) (ea_let (wX8_numberOn b0 (x1 : Int32) h) fun H3 => (gd ((okX8_actOf b0 ((vX8_numberOn b0 (x1 : Int32) h) : Int32) H3)) (if (vX8_actOf b0 ((vX8_numberOn b0 (x1 : Int32) h) : Int32) H3) = none then (some (((-1) : Int32), H3)) else (if Int32.toInt x2 = 0 then (some ((vX8_numberOn b0 (x1 : Int32) h), H3)) else (if Int32.toInt x2 = 1 then (gd ((vX8_actOf b0 ((vX8_numberOn b0 (x1 : Int32) h) : Int32) H3) = some (Option.getD (vX8_actOf b0 ((vX8_numberOn b0 (x1 : Int32) h) : Int32) H3) 0)) (gd (((Option.getD (vX8_actOf b0 ((vX8_numberOn b0 (x1 : Int32) h) : Int32) H3) 0) < ea_n H3 ∧ ea_c H3 (Option.getD (vX8_actOf b0 ((vX8_numberOn b0 (x1 : Int32) h) : Int32) H3) 0) = 0)) (some ((ea_i H3 (Option.getD (vX8_actOf b0 ((vX8_numberOn b0 (x1 : Int32) h) : Int32) H3) 0) 1), H3)))) else (if Int32.toInt x2 = 2 then (gd ((vX8_actOf b0 ((vX8_numberOn b0 (x1 : Int32) h) : Int32) H3) = some (Option.getD (vX8_actOf b0 ((vX8_numberOn b0 (x1 : Int32) h) : Int32) H3) 0)) (gd (((Option.getD (vX8_actOf b0 ((vX8_numberOn b0 (x1 : Int32) h) : Int32) H3) 0) < ea_n H3 ∧ ea_c H3 (Option.getD (vX8_actOf b0 ((vX8_numberOn b0 (x1 : Int32) h) : Int32) H3) 0) = 0)) (some ((ea_i H3 (Option.getD (vX8_actOf b0 ((vX8_numberOn b0 (x1 : Int32) h) : Int32) H3) 0) 2), H3)))) else (if Int32.toInt x2 = 3 then (gd ((vX8_actOf b0 ((vX8_numberOn b0 (x1 : Int32) h) : Int32) H3) = some (Option.getD (vX8_actOf b0 ((vX8_numberOn b0 (x1 : Int32) h) : Int32) H3) 0)) (gd (((Option.getD (vX8_actOf b0 ((vX8_numberOn b0 (x1 : Int32) h) : Int32) H3) 0) < ea_n H3 ∧ ea_c H3 (Option.getD (vX8_actOf b0 ((vX8_numberOn b0 (x1 : Int32) h) : Int32) H3) 0) = 0)) (some ((ea_i H3 (Option.getD (vX8_actOf b0 ((vX8_numberOn b0 (x1 : Int32) h) : Int32) H3) 0) 3), H3)))) else (if Int32.toInt x2 = 4 then (gd ((vX8_actOf b0 ((vX8_numberOn b0 (x1 : Int32) h) : Int32) H3) = some (Option.getD (vX8_actOf b0 ((vX8_numberOn b0 (x1 : Int32) h) : Int32) H3) 0)) (gd (((Option.getD (vX8_actOf b0 ((vX8_numberOn b0 (x1 : Int32) h) : Int32) H3) 0) < ea_n H3 ∧ ea_c H3 (Option.getD (vX8_actOf b0 ((vX8_numberOn b0 (x1 : Int32) h) : Int32) H3) 0) = 0)) (some ((ea_i H3 (Option.getD (vX8_actOf b0 ((vX8_numberOn b0 (x1 : Int32) h) : Int32) H3) 0) 4), H3)))) else (if Int32.toInt x2 = 5 then (gd ((vX8_actOf b0 ((vX8_numberOn b0 (x1 : Int32) h) : Int32) H3) = some (Option.getD (vX8_actOf b0 ((vX8_numberOn b0 (x1 : Int32) h) : Int32) H3) 0)) (gd (((Option.getD (vX8_actOf b0 ((vX8_numberOn b0 (x1 : Int32) h) : Int32) H3) 0) < ea_n H3 ∧ ea_c H3 (Option.getD (vX8_actOf b0 ((vX8_numberOn b0 (x1 : Int32) h) : Int32) H3) 0) = 0)) (some ((ea_i H3 (Option.getD (vX8_actOf b0 ((vX8_numberOn b0 (x1 : Int32) h) : Int32) H3) 0) 5), H3)))) else (if Int32.toInt x2 = 6 then (gd ((vX8_actOf b0 ((vX8_numberOn b0 (x1 : Int32) h) : Int32) H3) = some (Option.getD (vX8_actOf b0 ((vX8_numberOn b0 (x1 : Int32) h) : Int32) H3) 0)) (gd (((Option.getD (vX8_actOf b0 ((vX8_numberOn b0 (x1 : Int32) h) : Int32) H3) 0) < ea_n H3 ∧ ea_c H3 (Option.getD (vX8_actOf b0 ((vX8_numberOn b0 (x1 : Int32) h) : Int32) H3) 0) = 0)) (some ((ea_i H3 (Option.getD (vX8_actOf b0 ((vX8_numberOn b0 (x1 : Int32) h) : Int32) H3) 0) 6), H3)))) else (if Int32.toInt x2 = 7 then (gd ((vX8_actOf b0 ((vX8_numberOn b0 (x1 : Int32) h) : Int32) H3) = some (Option.getD (vX8_actOf b0 ((vX8_numberOn b0 (x1 : Int32) h) : Int32) H3) 0)) (gd (((Option.getD (vX8_actOf b0 ((vX8_numberOn b0 (x1 : Int32) h) : Int32) H3) 0) < ea_n H3 ∧ ea_c H3 (Option.getD (vX8_actOf b0 ((vX8_numberOn b0 (x1 : Int32) h) : Int32) H3) 0) = 0)) (some ((ea_i H3 (Option.getD (vX8_actOf b0 ((vX8_numberOn b0 (x1 : Int32) h) : Int32) H3) 0) 7), H3)))) else (some (((-1) : Int32), H3)))))))))))))) else (some (((-1) : Int32), h))))
theorem tX11_inForce {d : Nat} {b0 : Nat} {h0 : ea_H} (hd : 2 ≤ d) : ∀ (f lbl : Nat) (x1 : Int32) (x2 : Int32) (h : ea_H) (r : Int32) (h' : ea_H), gX11_inForce b0 f lbl x1 x2 h = some (r, h') → ShC b0 h → (lbl = 0 → ea_W mX11_inForce d h0 (some (vI r)) h' 0 [(0, vR (some (b0 + 0))), (1, vI x1), (2, vI x2)] [] h) := by
  intro f
  induction f with
  | zero => intro lbl x1 x2 h r h' E; cases E
  | succ f ih =>
    intro lbl x1 x2 h r h' E hs
    unfold gX11_inForce at E
    intro el
    subst el
    refine ea_iload_n (pc := 0) dX11_inForce_0 rfl 1 rfl ?_
    refine ea_if_lt (pc := 1) (tgt := 10) dX11_inForce_1 rfl (fun c22 => ?_) (fun c22 => ?_)
    · have E := (if_pos c22).symm.trans E
      refine ea_iconst (pc := 10) dX11_inForce_10 (v := (-1)) rfl ?_
      exact ea_iretO (pc := 11) dX11_inForce_11 rfl rfl E
    · have E := (if_neg c22).symm.trans E
      refine ea_iload_n (pc := 4) dX11_inForce_4 rfl 1 rfl ?_
      refine ea_bipush (pc := 5) dX11_inForce_5 (v := 7) rfl ?_
      refine ea_icmp_lt (pc := 7) (tgt := 12) dX11_inForce_7 rfl (fun c21 => ?_) (fun c21 => ?_)
      · have E := (if_pos c21).symm.trans E
        refine ea_aload_n (pc := 12) dX11_inForce_12 rfl 0 rfl ?_
        refine ea_getR (pc := 13) dX11_inForce_13 ec_11 (k := 4) (Nat.le_of_ble_eq_true rfl) rfl (Or.inl ew_441) (hs.1 0 (by decide)).1 (hs.1 0 (by decide)).2.1 (hs.2 0 4 rfl) ?_
        refine ea_iload_n (pc := 16) dX11_inForce_16 rfl 1 rfl ?_
        obtain ⟨z1, E⟩ := gd_some E
        refine ea_callV (pc := 17) (d' := d - 1) (As := [vI x1]) (st := []) dX11_inForce_17 kX8_numberOn (sX8_numberOn (d := d - 1) (by omega) hs z1) (by omega) rfl (Nat.le_of_ble_eq_true rfl) ew_916 ew_917 ew_918 (ci := 8) rfl (by decide) (hs.1 21 (by decide)).1 (hs.1 21 (by decide)).2.1 ?_
        have hs2 : ShC b0 (wX8_numberOn b0 (x1 : Int32) h) := shX8_numberOn hs
        obtain ⟨H3, eH3, E⟩ := let_some E
        refine ea_nm eH3 ?_
        have hsH3 : ShC b0 H3 := by rw [eH3]; exact hs2
        refine ea_istore_n (pc := 20) (lv' := [(0, vR (some (b0 + 0))), (2, vI x2), (3, vI (vX8_numberOn b0 (x1 : Int32) h))]) dX11_inForce_20 rfl (Nat.le_of_ble_eq_true rfl) [1, 3, 0] rfl ?_
        refine ea_aload_n (pc := 21) dX11_inForce_21 rfl 0 rfl ?_
        refine ea_getR (pc := 22) dX11_inForce_22 ec_11 (k := 4) (Nat.le_of_ble_eq_true rfl) rfl (Or.inl ew_441) (hsH3.1 0 (by decide)).1 (hsH3.1 0 (by decide)).2.1 (hsH3.2 0 4 rfl) ?_
        refine ea_iload_n (pc := 25) dX11_inForce_25 rfl 2 rfl ?_
        obtain ⟨z4, E⟩ := gd_some E
        refine ea_callV (pc := 26) (d' := d - 1) (As := [vI (vX8_numberOn b0 (x1 : Int32) h)]) (st := []) dX11_inForce_26 kX8_actOf (sX8_actOf (d := d - 1) (by omega) hsH3 z4) (by omega) rfl (Nat.le_of_ble_eq_true rfl) ew_920 ew_921 ew_922 (ci := 8) rfl (by decide) (hsH3.1 21 (by decide)).1 (hsH3.1 21 (by decide)).2.1 ?_
        refine ea_astore (pc := 29) (lv' := [(2, vI x2), (3, vI (vX8_numberOn b0 (x1 : Int32) h)), (4, vR (vX8_actOf b0 ((vX8_numberOn b0 (x1 : Int32) h) : Int32) H3))]) dX11_inForce_29 (Nat.le_of_ble_eq_true rfl) [2, 3, 0] rfl ?_
        refine ea_aload (pc := 31) dX11_inForce_31 2 rfl ?_
        refine ea_ifnonnull (pc := 33) (tgt := 38) dX11_inForce_33 rfl (fun a20 c19 => ?_) (fun c19 => ?_)
        · have c19n : ¬ (vX8_actOf b0 ((vX8_numberOn b0 (x1 : Int32) h) : Int32) H3) = none := by rw [c19]; exact fun q => nomatch q
          have E := (if_neg c19n).symm.trans E
          refine ea_iload_n (pc := 38) dX11_inForce_38 rfl 0 rfl ?_
          by_cases qc39_0 : Int32.toInt x2 = 0
          · have E := (if_pos qc39_0).symm.trans E
            refine ea_tswIn (pc := 39) (tgt := 84) dX11_inForce_39 (by rw [qc39_0]; decide) (by rw [qc39_0]; decide) (by rw [qc39_0]; rfl) rfl ?_
            refine ea_iload_n (pc := 84) dX11_inForce_84 rfl 1 rfl ?_
            exact ea_iretO (pc := 85) dX11_inForce_85 rfl rfl E
          have E := (if_neg qc39_0).symm.trans E
          by_cases qc39_1 : Int32.toInt x2 = 1
          · have E := (if_pos qc39_1).symm.trans E
            refine ea_tswIn (pc := 39) (tgt := 86) dX11_inForce_39 (by rw [qc39_1]; decide) (by rw [qc39_1]; decide) (by rw [qc39_1]; rfl) rfl ?_
            refine ea_aload (pc := 86) dX11_inForce_86 2 rfl ?_
            obtain ⟨e5, E⟩ := gd_some E
            obtain ⟨f6, E⟩ := gd_some E
            refine ea_deref0 e5 ?_
            refine ea_getI (pc := 88) dX11_inForce_88 ec_0 (k := 1) (Nat.le_of_ble_eq_true rfl) rfl (Or.inl ew_795) f6.1 f6.2 ?_
            exact ea_iretO (pc := 91) dX11_inForce_91 rfl rfl E
          have E := (if_neg qc39_1).symm.trans E
          by_cases qc39_2 : Int32.toInt x2 = 2
          · have E := (if_pos qc39_2).symm.trans E
            refine ea_tswIn (pc := 39) (tgt := 92) dX11_inForce_39 (by rw [qc39_2]; decide) (by rw [qc39_2]; decide) (by rw [qc39_2]; rfl) rfl ?_
            refine ea_aload (pc := 92) dX11_inForce_92 2 rfl ?_
            obtain ⟨e7, E⟩ := gd_some E
            obtain ⟨f8, E⟩ := gd_some E
            refine ea_deref0 e7 ?_
            refine ea_getI (pc := 94) dX11_inForce_94 ec_0 (k := 2) (Nat.le_of_ble_eq_true rfl) rfl (Or.inl ew_798) f8.1 f8.2 ?_
            exact ea_iretO (pc := 97) dX11_inForce_97 rfl rfl E
          have E := (if_neg qc39_2).symm.trans E
          by_cases qc39_3 : Int32.toInt x2 = 3
          · have E := (if_pos qc39_3).symm.trans E
            refine ea_tswIn (pc := 39) (tgt := 98) dX11_inForce_39 (by rw [qc39_3]; decide) (by rw [qc39_3]; decide) (by rw [qc39_3]; rfl) rfl ?_
            refine ea_aload (pc := 98) dX11_inForce_98 2 rfl ?_
            obtain ⟨e9, E⟩ := gd_some E
            obtain ⟨f10, E⟩ := gd_some E
            refine ea_deref0 e9 ?_
            refine ea_getI (pc := 100) dX11_inForce_100 ec_0 (k := 3) (Nat.le_of_ble_eq_true rfl) rfl (Or.inl ew_802) f10.1 f10.2 ?_
            exact ea_iretO (pc := 103) dX11_inForce_103 rfl rfl E
          have E := (if_neg qc39_3).symm.trans E
          by_cases qc39_4 : Int32.toInt x2 = 4
          · have E := (if_pos qc39_4).symm.trans E
            refine ea_tswIn (pc := 39) (tgt := 104) dX11_inForce_39 (by rw [qc39_4]; decide) (by rw [qc39_4]; decide) (by rw [qc39_4]; rfl) rfl ?_
            refine ea_aload (pc := 104) dX11_inForce_104 2 rfl ?_
            obtain ⟨e11, E⟩ := gd_some E
            obtain ⟨f12, E⟩ := gd_some E
            refine ea_deref0 e11 ?_
            refine ea_getI (pc := 106) dX11_inForce_106 ec_0 (k := 4) (Nat.le_of_ble_eq_true rfl) rfl (Or.inl ew_805) f12.1 f12.2 ?_
            exact ea_iretO (pc := 109) dX11_inForce_109 rfl rfl E
          have E := (if_neg qc39_4).symm.trans E
          by_cases qc39_5 : Int32.toInt x2 = 5
          · have E := (if_pos qc39_5).symm.trans E
            refine ea_tswIn (pc := 39) (tgt := 110) dX11_inForce_39 (by rw [qc39_5]; decide) (by rw [qc39_5]; decide) (by rw [qc39_5]; rfl) rfl ?_
            refine ea_aload (pc := 110) dX11_inForce_110 2 rfl ?_
            obtain ⟨e13, E⟩ := gd_some E
            obtain ⟨f14, E⟩ := gd_some E
            refine ea_deref0 e13 ?_
            refine ea_getI (pc := 112) dX11_inForce_112 ec_0 (k := 5) (Nat.le_of_ble_eq_true rfl) rfl (Or.inl ew_808) f14.1 f14.2 ?_
            exact ea_iretO (pc := 115) dX11_inForce_115 rfl rfl E
          have E := (if_neg qc39_5).symm.trans E
          by_cases qc39_6 : Int32.toInt x2 = 6
          · have E := (if_pos qc39_6).symm.trans E
            refine ea_tswIn (pc := 39) (tgt := 116) dX11_inForce_39 (by rw [qc39_6]; decide) (by rw [qc39_6]; decide) (by rw [qc39_6]; rfl) rfl ?_
            refine ea_aload (pc := 116) dX11_inForce_116 2 rfl ?_
            obtain ⟨e15, E⟩ := gd_some E
            obtain ⟨f16, E⟩ := gd_some E
            refine ea_deref0 e15 ?_
            refine ea_getI (pc := 118) dX11_inForce_118 ec_0 (k := 6) (Nat.le_of_ble_eq_true rfl) rfl (Or.inl ew_811) f16.1 f16.2 ?_
            exact ea_iretO (pc := 121) dX11_inForce_121 rfl rfl E
          have E := (if_neg qc39_6).symm.trans E
          by_cases qc39_7 : Int32.toInt x2 = 7
          · have E := (if_pos qc39_7).symm.trans E
            refine ea_tswIn (pc := 39) (tgt := 122) dX11_inForce_39 (by rw [qc39_7]; decide) (by rw [qc39_7]; decide) (by rw [qc39_7]; rfl) rfl ?_
            refine ea_aload (pc := 122) dX11_inForce_122 2 rfl ?_
            obtain ⟨e17, E⟩ := gd_some E
            obtain ⟨f18, E⟩ := gd_some E
            refine ea_deref0 e17 ?_
            refine ea_getI (pc := 124) dX11_inForce_124 ec_0 (k := 7) (Nat.le_of_ble_eq_true rfl) rfl (Or.inl ew_815) f18.1 f18.2 ?_
            exact ea_iretO (pc := 127) dX11_inForce_127 rfl rfl E
          have E := (if_neg qc39_7).symm.trans E
          refine ea_tswOut (pc := 39) (tgt := 128) dX11_inForce_39 (ec_sw_0_7 qc39_0 qc39_1 qc39_2 qc39_3 qc39_4 qc39_5 qc39_6 qc39_7) rfl ?_
          refine ea_iconst (pc := 128) dX11_inForce_128 (v := (-1)) rfl ?_
          exact ea_iretO (pc := 129) dX11_inForce_129 rfl rfl E
        · have E := (if_pos c19).symm.trans E
          refine ea_iconst (pc := 36) dX11_inForce_36 (v := (-1)) rfl ?_
          exact ea_iretO (pc := 37) dX11_inForce_37 rfl rfl E
      · have E := (if_neg c21).symm.trans E
        refine ea_iconst (pc := 10) dX11_inForce_10 (v := (-1)) rfl ?_
        exact ea_iretO (pc := 11) dX11_inForce_11 rfl rfl E
noncomputable def qX11_inForce (b0 : Nat) (x1 : Int32) (x2 : Int32) (h : ea_H) : Option (Int32 × ea_H) := gX11_inForce b0 1000000000 0 x1 x2 h
def okX11_inForce (b0 : Nat) (x1 : Int32) (x2 : Int32) (h : ea_H) : Prop := ∃ x, qX11_inForce b0 x1 x2 h = some x
noncomputable def vX11_inForce (b0 : Nat) (x1 : Int32) (x2 : Int32) (h : ea_H) : Int32 := ((qX11_inForce b0 x1 x2 h).getD (0, h)).1
noncomputable def wX11_inForce (b0 : Nat) (x1 : Int32) (x2 : Int32) (h : ea_H) : ea_H := ((qX11_inForce b0 x1 x2 h).getD (0, h)).2
theorem sX11_inForce {d : Nat} {b0 : Nat} {x1 : Int32} {x2 : Int32} {h : ea_H} (hd : 2 ≤ d) (hs : ShC b0 h) (K : okX11_inForce b0 x1 x2 h) : ea_Met mX11_inForce d [vR (some (b0 + 0)), vI x1, vI x2] h (some (vI (vX11_inForce b0 x1 x2 h))) (wX11_inForce b0 x1 x2 h) := by
  obtain ⟨⟨x, y⟩, K⟩ := K
  unfold wX11_inForce vX11_inForce
  rw [K]
  unfold qX11_inForce at K
  exact ea_enter rfl (Nat.le_of_ble_eq_true rfl) ((tX11_inForce hd 1000000000 0 x1 x2 h x y K hs) rfl)
theorem zX11_inForce {b0 : Nat} : ∀ (f lbl : Nat) (x1 : Int32) (x2 : Int32) (h : ea_H) (r : Int32) (h' : ea_H), gX11_inForce b0 f lbl x1 x2 h = some (r, h') → ShC b0 h → ShC b0 h' := by
  intro f
  induction f with
  | zero => intro lbl x1 x2 h r h' E; cases E
  | succ f ih =>
    intro lbl x1 x2 h r h' E hs
    unfold gX11_inForce at E
    by_cases c22 : x1 < (0 : Int32)
    · have E := (if_pos c22).symm.trans E
      exact ea_shO E hs
    have E := (if_neg c22).symm.trans E
    by_cases c21 : x1 < (7 : Int32)
    · have E := (if_pos c21).symm.trans E
      obtain ⟨z1, E⟩ := gd_some E
      obtain ⟨H3, eH3, E⟩ := let_some E
      have hsH3 : ShC b0 H3 := by rw [eH3]; exact (shX8_numberOn hs)
      obtain ⟨z4, E⟩ := gd_some E
      by_cases c19 : (vX8_actOf b0 ((vX8_numberOn b0 (x1 : Int32) h) : Int32) H3) = none
      · have E := (if_pos c19).symm.trans E
        exact ea_shO E hsH3
      have E := (if_neg c19).symm.trans E
      by_cases qc39_0 : Int32.toInt x2 = 0
      · have E := (if_pos qc39_0).symm.trans E
        exact ea_shO E hsH3
      have E := (if_neg qc39_0).symm.trans E
      by_cases qc39_1 : Int32.toInt x2 = 1
      · have E := (if_pos qc39_1).symm.trans E
        obtain ⟨e5, E⟩ := gd_some E
        obtain ⟨f6, E⟩ := gd_some E
        exact ea_shO E hsH3
      have E := (if_neg qc39_1).symm.trans E
      by_cases qc39_2 : Int32.toInt x2 = 2
      · have E := (if_pos qc39_2).symm.trans E
        obtain ⟨e7, E⟩ := gd_some E
        obtain ⟨f8, E⟩ := gd_some E
        exact ea_shO E hsH3
      have E := (if_neg qc39_2).symm.trans E
      by_cases qc39_3 : Int32.toInt x2 = 3
      · have E := (if_pos qc39_3).symm.trans E
        obtain ⟨e9, E⟩ := gd_some E
        obtain ⟨f10, E⟩ := gd_some E
        exact ea_shO E hsH3
      have E := (if_neg qc39_3).symm.trans E
      by_cases qc39_4 : Int32.toInt x2 = 4
      · have E := (if_pos qc39_4).symm.trans E
        obtain ⟨e11, E⟩ := gd_some E
        obtain ⟨f12, E⟩ := gd_some E
        exact ea_shO E hsH3
      have E := (if_neg qc39_4).symm.trans E
      by_cases qc39_5 : Int32.toInt x2 = 5
      · have E := (if_pos qc39_5).symm.trans E
        obtain ⟨e13, E⟩ := gd_some E
        obtain ⟨f14, E⟩ := gd_some E
        exact ea_shO E hsH3
      have E := (if_neg qc39_5).symm.trans E
      by_cases qc39_6 : Int32.toInt x2 = 6
      · have E := (if_pos qc39_6).symm.trans E
        obtain ⟨e15, E⟩ := gd_some E
        obtain ⟨f16, E⟩ := gd_some E
        exact ea_shO E hsH3
      have E := (if_neg qc39_6).symm.trans E
      by_cases qc39_7 : Int32.toInt x2 = 7
      · have E := (if_pos qc39_7).symm.trans E
        obtain ⟨e17, E⟩ := gd_some E
        obtain ⟨f18, E⟩ := gd_some E
        exact ea_shO E hsH3
      have E := (if_neg qc39_7).symm.trans E
      exact ea_shO E hsH3
    have E := (if_neg c21).symm.trans E
    exact ea_shO E hs
theorem shX11_inForce {b0 : Nat} {x1 : Int32} {x2 : Int32} {h : ea_H} (hs : ShC b0 h) : ShC b0 (wX11_inForce b0 x1 x2 h) := by
  unfold wX11_inForce
  cases K : qX11_inForce b0 x1 x2 h with
  | none => exact hs
  | some x => obtain ⟨x, y⟩ := x; unfold qX11_inForce at K; exact zX11_inForce _ _ _ _ _ _ _ K hs
noncomputable def gX11_where (b0 : Nat) : Nat → Nat → Int32 → Int32 → Int32 → ea_H → Option (Int32 × ea_H)
  | 0, _, _, _, _, _ => none
  | f + 1, lbl, x1, x2, x3, h =>
    (gd ((okX11_letterOf b0 (x1 : Int32) h)) (if (vX11_letterOf b0 (x1 : Int32) h) = none then (some (((-1) : Int32), h)) else (if x2 < (0 : Int32) then (some (((-1) : Int32), h)) else (if x2 ≤ (ea_i h (b0 + 0) 11) then (gd ((vX11_letterOf b0 (x1 : Int32) h) = some (Option.getD (vX11_letterOf b0 (x1 : Int32) h) 0)) (gd (((Option.getD (vX11_letterOf b0 (x1 : Int32) h) 0) < ea_n h ∧ ea_c h (Option.getD (vX11_letterOf b0 (x1 : Int32) h) 0) = 4)) (gd ((okX4_rowAt b0 (Option.getD (vX11_letterOf b0 (x1 : Int32) h) 0) (x2 : Int32) h)) (ea_let (wX4_rowAt b0 (Option.getD (vX11_letterOf b0 (x1 : Int32) h) 0) (x2 : Int32) h) fun H6 => (if (vX4_rowAt b0 (Option.getD (vX11_letterOf b0 (x1 : Int32) h) 0) (x2 : Int32) h) = ((-1) : Int32) then (some (((-1) : Int32), H6)) else none))))) else (some (((-1) : Int32), h))))))
theorem tX11_where {d : Nat} {b0 : Nat} {h0 : ea_H} (hd : 3 ≤ d) : ∀ (f lbl : Nat) (x1 : Int32) (x2 : Int32) (x3 : Int32) (h : ea_H) (r : Int32) (h' : ea_H), gX11_where b0 f lbl x1 x2 x3 h = some (r, h') → ShC b0 h → (lbl = 0 → ea_W mX11_where d h0 (some (vI r)) h' 0 [(0, vR (some (b0 + 0))), (1, vI x1), (2, vI x2), (3, vI x3)] [] h) := by
  intro f
  induction f with
  | zero => intro lbl x1 x2 x3 h r h' E; cases E
  | succ f ih =>
    intro lbl x1 x2 x3 h r h' E hs
    unfold gX11_where at E
    intro el
    subst el
    refine ea_aload_n (pc := 0) dX11_where_0 rfl 0 rfl ?_
    refine ea_iload_n (pc := 1) dX11_where_1 rfl 1 rfl ?_
    obtain ⟨z1, E⟩ := gd_some E
    refine ea_callV (pc := 2) (d' := d - 1) (As := [vI x1]) (st := []) dX11_where_2 kX11_letterOf (sX11_letterOf (d := d - 1) (by omega) hs z1) (by omega) rfl (Nat.le_of_ble_eq_true rfl) ew_1076 ew_1078 ew_37 (ci := 11) rfl (by decide) (hs.1 0 (by decide)).1 (hs.1 0 (by decide)).2.1 ?_
    refine ea_astore (pc := 5) (lv' := [(0, vR (some (b0 + 0))), (2, vI x2), (3, vI x3), (4, vR (vX11_letterOf b0 (x1 : Int32) h))]) dX11_where_5 (Nat.le_of_ble_eq_true rfl) [1, 3, 4, 0] rfl ?_
    refine ea_aload (pc := 7) dX11_where_7 3 rfl ?_
    refine ea_ifnull (pc := 9) (tgt := 24) dX11_where_9 rfl (fun c10 => ?_) (fun a11 c10 => ?_)
    · have E := (if_pos c10).symm.trans E
      refine ea_iconst (pc := 24) dX11_where_24 (v := (-1)) rfl ?_
      exact ea_iretO (pc := 25) dX11_where_25 rfl rfl E
    · have c10n : ¬ (vX11_letterOf b0 (x1 : Int32) h) = none := by rw [c10]; exact fun q => nomatch q
      have E := (if_neg c10n).symm.trans E
      refine ea_iload_n (pc := 12) dX11_where_12 rfl 1 rfl ?_
      refine ea_if_lt (pc := 13) (tgt := 24) dX11_where_13 rfl (fun c9 => ?_) (fun c9 => ?_)
      · have E := (if_pos c9).symm.trans E
        refine ea_iconst (pc := 24) dX11_where_24 (v := (-1)) rfl ?_
        exact ea_iretO (pc := 25) dX11_where_25 rfl rfl E
      · have E := (if_neg c9).symm.trans E
        refine ea_iload_n (pc := 16) dX11_where_16 rfl 1 rfl ?_
        refine ea_aload_n (pc := 17) dX11_where_17 rfl 0 rfl ?_
        refine ea_getI (pc := 18) dX11_where_18 ec_11 (k := 11) (Nat.le_of_ble_eq_true rfl) rfl (Or.inl ew_448) (hs.1 0 (by decide)).1 (hs.1 0 (by decide)).2.1 ?_
        refine ea_icmp_le (pc := 21) (tgt := 26) dX11_where_21 rfl (fun c8 => ?_) (fun c8 => ?_)
        · have E := (if_pos c8).symm.trans E
          refine ea_aload (pc := 26) dX11_where_26 3 rfl ?_
          refine ea_iload_n (pc := 28) dX11_where_28 rfl 1 rfl ?_
          obtain ⟨e2, E⟩ := gd_some E
          obtain ⟨f3, E⟩ := gd_some E
          obtain ⟨z4, E⟩ := gd_some E
          refine ea_deref1 e2 ?_
          refine ea_callV (pc := 29) (d' := d - 1) (As := [vI x2]) (st := []) dX11_where_29 kX4_rowAt (sX4_rowAt (d := d - 1) (by omega) hs z4) (by omega) rfl (Nat.le_of_ble_eq_true rfl) ew_1128 ew_1129 ew_1130 (ci := 4) rfl (by decide) f3.1 f3.2 ?_
          have hs5 : ShC b0 (wX4_rowAt b0 (Option.getD (vX11_letterOf b0 (x1 : Int32) h) 0) (x2 : Int32) h) := shX4_rowAt hs
          obtain ⟨H6, eH6, E⟩ := let_some E
          refine ea_nm eH6 ?_
          have hsH6 : ShC b0 H6 := by rw [eH6]; exact hs5
          refine ea_istore (pc := 32) (lv' := [(3, vI x3), (4, vR (vX11_letterOf b0 (x1 : Int32) h)), (5, vI (vX4_rowAt b0 (Option.getD (vX11_letterOf b0 (x1 : Int32) h) 0) (x2 : Int32) h))]) dX11_where_32 (Nat.le_of_ble_eq_true rfl) [3, 4, 0] rfl ?_
          refine ea_iload (pc := 34) dX11_where_34 2 rfl ?_
          refine ea_iconst (pc := 36) dX11_where_36 (v := (-1)) rfl ?_
          refine ea_icmp_ne (pc := 37) (tgt := 42) dX11_where_37 rfl (fun c7 => ?_) (fun c7 => ?_)
          · have E := (if_neg c7).symm.trans E
            refine ea_iload_n (pc := 42) dX11_where_42 rfl 0 rfl ?_
            cases E
          · have E := (if_pos c7).symm.trans E
            refine ea_iconst (pc := 40) dX11_where_40 (v := (-1)) rfl ?_
            exact ea_iretO (pc := 41) dX11_where_41 rfl rfl E
        · have E := (if_neg c8).symm.trans E
          refine ea_iconst (pc := 24) dX11_where_24 (v := (-1)) rfl ?_
          exact ea_iretO (pc := 25) dX11_where_25 rfl rfl E
noncomputable def qX11_where (b0 : Nat) (x1 : Int32) (x2 : Int32) (x3 : Int32) (h : ea_H) : Option (Int32 × ea_H) := gX11_where b0 1000000000 0 x1 x2 x3 h
def okX11_where (b0 : Nat) (x1 : Int32) (x2 : Int32) (x3 : Int32) (h : ea_H) : Prop := ∃ x, qX11_where b0 x1 x2 x3 h = some x
noncomputable def vX11_where (b0 : Nat) (x1 : Int32) (x2 : Int32) (x3 : Int32) (h : ea_H) : Int32 := ((qX11_where b0 x1 x2 x3 h).getD (0, h)).1
noncomputable def wX11_where (b0 : Nat) (x1 : Int32) (x2 : Int32) (x3 : Int32) (h : ea_H) : ea_H := ((qX11_where b0 x1 x2 x3 h).getD (0, h)).2
theorem sX11_where {d : Nat} {b0 : Nat} {x1 : Int32} {x2 : Int32} {x3 : Int32} {h : ea_H} (hd : 3 ≤ d) (hs : ShC b0 h) (K : okX11_where b0 x1 x2 x3 h) : ea_Met mX11_where d [vR (some (b0 + 0)), vI x1, vI x2, vI x3] h (some (vI (vX11_where b0 x1 x2 x3 h))) (wX11_where b0 x1 x2 x3 h) := by
  obtain ⟨⟨x, y⟩, K⟩ := K
  unfold wX11_where vX11_where
  rw [K]
  unfold qX11_where at K
  exact ea_enter rfl (Nat.le_of_ble_eq_true rfl) ((tX11_where hd 1000000000 0 x1 x2 x3 h x y K hs) rfl)
theorem zX11_where {b0 : Nat} : ∀ (f lbl : Nat) (x1 : Int32) (x2 : Int32) (x3 : Int32) (h : ea_H) (r : Int32) (h' : ea_H), gX11_where b0 f lbl x1 x2 x3 h = some (r, h') → ShC b0 h → ShC b0 h' := by
  intro f
  induction f with
  | zero => intro lbl x1 x2 x3 h r h' E; cases E
  | succ f ih =>
    intro lbl x1 x2 x3 h r h' E hs
    unfold gX11_where at E
    obtain ⟨z1, E⟩ := gd_some E
    by_cases c10 : (vX11_letterOf b0 (x1 : Int32) h) = none
    · have E := (if_pos c10).symm.trans E
      exact ea_shO E hs
    have E := (if_neg c10).symm.trans E
    by_cases c9 : x2 < (0 : Int32)
    · have E := (if_pos c9).symm.trans E
      exact ea_shO E hs
    have E := (if_neg c9).symm.trans E
    by_cases c8 : x2 ≤ (ea_i h (b0 + 0) 11)
    · have E := (if_pos c8).symm.trans E
      obtain ⟨e2, E⟩ := gd_some E
      obtain ⟨f3, E⟩ := gd_some E
      obtain ⟨z4, E⟩ := gd_some E
      obtain ⟨H6, eH6, E⟩ := let_some E
      have hsH6 : ShC b0 H6 := by rw [eH6]; exact (shX4_rowAt hs)
      by_cases c7 : (vX4_rowAt b0 (Option.getD (vX11_letterOf b0 (x1 : Int32) h) 0) (x2 : Int32) h) = ((-1) : Int32)
      · have E := (if_pos c7).symm.trans E
        exact ea_shO E hsH6
      have E := (if_neg c7).symm.trans E
      cases E
    have E := (if_neg c8).symm.trans E
    exact ea_shO E hs
theorem shX11_where {b0 : Nat} {x1 : Int32} {x2 : Int32} {x3 : Int32} {h : ea_H} (hs : ShC b0 h) : ShC b0 (wX11_where b0 x1 x2 x3 h) := by
  unfold wX11_where
  cases K : qX11_where b0 x1 x2 x3 h with
  | none => exact hs
  | some x => obtain ⟨x, y⟩ := x; unfold qX11_where at K; exact zX11_where _ _ _ _ _ _ _ _ K hs
noncomputable def gX11_order (b0 : Nat) : Nat → Nat → Option Nat → Int32 → Int32 → ea_H → Option (Int64 × ea_H)
  | 0, _, _, _, _, _ => none
  | f + 1, lbl, r3, x1, x2, h =>
    if lbl = 0 then (gd ((okX11_letterOf b0 (x1 : Int32) h)) (if (vX11_letterOf b0 (x1 : Int32) h) = none then (some (((-1) : Int64), h)) else (if x2 = (0 : Int32) then (gd ((vX11_letterOf b0 (x1 : Int32) h) = some (Option.getD (vX11_letterOf b0 (x1 : Int32) h) 0)) (gd (((Option.getD (vX11_letterOf b0 (x1 : Int32) h) 0) < ea_n h ∧ ea_c h (Option.getD (vX11_letterOf b0 (x1 : Int32) h) 0) = 4)) (some ((Int32.toInt64 (ea_i h (Option.getD (vX11_letterOf b0 (x1 : Int32) h) 0) 18)), h)))) else (if x2 = (1 : Int32) then (gX11_order b0 f 34 ((vX11_letterOf b0 (x1 : Int32) h) : Option Nat) 0 (x2 : Int32) h) else (if x2 = (2 : Int32) then (gX11_order b0 f 34 ((vX11_letterOf b0 (x1 : Int32) h) : Option Nat) 0 (x2 : Int32) h) else (if x2 < (10 : Int32) then (gX11_order b0 f 89 ((vX11_letterOf b0 (x1 : Int32) h) : Option Nat) 0 (x2 : Int32) h) else (gd ((vX11_letterOf b0 (x1 : Int32) h) = some (Option.getD (vX11_letterOf b0 (x1 : Int32) h) 0)) (gd (((Option.getD (vX11_letterOf b0 (x1 : Int32) h) 0) < ea_n h ∧ ea_c h (Option.getD (vX11_letterOf b0 (x1 : Int32) h) 0) = 4)) (if ((10 : Int32) + (ea_i h (Option.getD (vX11_letterOf b0 (x1 : Int32) h) 0) 18)) ≤ x2 then (gX11_order b0 f 89 ((vX11_letterOf b0 (x1 : Int32) h) : Option Nat) 0 (x2 : Int32) h) else (gd ((vX11_letterOf b0 (x1 : Int32) h) = some (Option.getD (vX11_letterOf b0 (x1 : Int32) h) 0)) (gd (((Option.getD (vX11_letterOf b0 (x1 : Int32) h) 0) < ea_n h ∧ ea_c h (Option.getD (vX11_letterOf b0 (x1 : Int32) h) 0) = 4)) (gd ((okX4_placeTown b0 (Option.getD (vX11_letterOf b0 (x1 : Int32) h) 0) ((x2 - (10 : Int32)) : Int32) h)) (some ((Int32.toInt64 (vX4_placeTown b0 (Option.getD (vX11_letterOf b0 (x1 : Int32) h) 0) ((x2 - (10 : Int32)) : Int32) h)), h)))))))))))))) else
    if lbl = 34 then (gd (r3 = some (Option.getD r3 0)) (gd (((Option.getD r3 0) < ea_n h ∧ ea_c h (Option.getD r3 0) = 4)) (if (ea_i h (Option.getD r3 0) 18) = (0 : Int32) then (some (((-1) : Int64), h)) else (if x2 = (1 : Int32) then (gd (r3 = some (Option.getD r3 0)) (gd (((Option.getD r3 0) < ea_n h ∧ ea_c h (Option.getD r3 0) = 4)) (gd ((okX4_foundByAll b0 (Option.getD r3 0) (1 : Int32) h)) (ea_let (wX4_foundByAll b0 (Option.getD r3 0) (1 : Int32) h) fun H27 => (some ((vX4_foundByAll b0 (Option.getD r3 0) (1 : Int32) h), H27)))))) else (gd (r3 = some (Option.getD r3 0)) (gd (((Option.getD r3 0) < ea_n h ∧ ea_c h (Option.getD r3 0) = 4)) (gd ((okX4_foundByAll b0 (Option.getD r3 0) (0 : Int32) h)) (ea_let (wX4_foundByAll b0 (Option.getD r3 0) (0 : Int32) h) fun H22 => (some ((vX4_foundByAll b0 (Option.getD r3 0) (0 : Int32) h), H22)))))))))) else
    if lbl = 89 then (if x2 < (20 : Int32) then (some (((-1) : Int64), h)) else (gd (r3 = some (Option.getD r3 0)) (gd (((Option.getD r3 0) < ea_n h ∧ ea_c h (Option.getD r3 0) = 4)) (if ((20 : Int32) + (ea_i h (Option.getD r3 0) 18)) ≤ x2 then (some (((-1) : Int64), h)) else (gd (r3 = some (Option.getD r3 0)) (gd (((Option.getD r3 0) < ea_n h ∧ ea_c h (Option.getD r3 0) = 4)) (gd ((okX4_placeChance b0 (Option.getD r3 0) ((x2 - (20 : Int32)) : Int32) h)) (some ((Int32.toInt64 (vX4_placeChance b0 (Option.getD r3 0) ((x2 - (20 : Int32)) : Int32) h)), h))))))))) else none
theorem tX11_order {d : Nat} {b0 : Nat} {h0 : ea_H} (hd : 3 ≤ d) : ∀ (f lbl : Nat) (r3 : Option Nat) (x1 : Int32) (x2 : Int32) (h : ea_H) (r : Int64) (h' : ea_H), gX11_order b0 f lbl r3 x1 x2 h = some (r, h') → ShC b0 h → (lbl = 0 → ea_W mX11_order d h0 (some (vJ r)) h' 0 [(0, vR (some (b0 + 0))), (1, vI x1), (2, vI x2)] [] h) ∧ (lbl = 34 → ea_W mX11_order d h0 (some (vJ r)) h' 34 [(2, vI x2), (3, vR r3)] [] h) ∧ (lbl = 89 → ea_W mX11_order d h0 (some (vJ r)) h' 89 [(2, vI x2), (3, vR r3)] [] h) := by
  intro f
  induction f with
  | zero => intro lbl r3 x1 x2 h r h' E; cases E
  | succ f ih =>
    intro lbl r3 x1 x2 h r h' E hs
    unfold gX11_order at E
    refine ⟨?_, ?_⟩
    · intro el
      subst el
      have E := (if_pos rfl).symm.trans E
      refine ea_aload_n (pc := 0) dX11_order_0 rfl 0 rfl ?_
      refine ea_iload_n (pc := 1) dX11_order_1 rfl 1 rfl ?_
      obtain ⟨z1, E⟩ := gd_some E
      refine ea_callV (pc := 2) (d' := d - 1) (As := [vI x1]) (st := []) dX11_order_2 kX11_letterOf (sX11_letterOf (d := d - 1) (by omega) hs z1) (by omega) rfl (Nat.le_of_ble_eq_true rfl) ew_1076 ew_1078 ew_37 (ci := 11) rfl (by decide) (hs.1 0 (by decide)).1 (hs.1 0 (by decide)).2.1 ?_
      refine ea_astore_n (pc := 5) (lv' := [(2, vI x2), (3, vR (vX11_letterOf b0 (x1 : Int32) h))]) dX11_order_5 rfl (Nat.le_of_ble_eq_true rfl) [3, 0] rfl ?_
      refine ea_aload_n (pc := 6) dX11_order_6 rfl 1 rfl ?_
      refine ea_ifnonnull (pc := 7) (tgt := 14) dX11_order_7 rfl (fun a15 c14 => ?_) (fun c14 => ?_)
      · have c14n : ¬ (vX11_letterOf b0 (x1 : Int32) h) = none := by rw [c14]; exact fun q => nomatch q
        have E := (if_neg c14n).symm.trans E
        refine ea_iload_n (pc := 14) dX11_order_14 rfl 0 rfl ?_
        refine ea_if_ne (pc := 15) (tgt := 24) dX11_order_15 rfl (fun c13 => ?_) (fun c13 => ?_)
        · have E := (if_neg c13).symm.trans E
          refine ea_iload_n (pc := 24) dX11_order_24 rfl 0 rfl ?_
          refine ea_iconst (pc := 25) dX11_order_25 (v := 1) rfl ?_
          refine ea_icmp_eq (pc := 26) (tgt := 34) dX11_order_26 rfl (fun c10 => ?_) (fun c10 => ?_)
          · have E := (if_pos c10).symm.trans E
            exact ((ih 34 ((vX11_letterOf b0 (x1 : Int32) h) : Option Nat) 0 (x2 : Int32) h _ _ E hs).2.1 rfl)
          · have E := (if_neg c10).symm.trans E
            refine ea_iload_n (pc := 29) dX11_order_29 rfl 0 rfl ?_
            refine ea_iconst (pc := 30) dX11_order_30 (v := 2) rfl ?_
            refine ea_icmp_ne (pc := 31) (tgt := 62) dX11_order_31 rfl (fun c9 => ?_) (fun c9 => ?_)
            · have E := (if_neg c9).symm.trans E
              refine ea_iload_n (pc := 62) dX11_order_62 rfl 0 rfl ?_
              refine ea_bipush (pc := 63) dX11_order_63 (v := 10) rfl ?_
              refine ea_icmp_lt (pc := 65) (tgt := 89) dX11_order_65 rfl (fun c8 => ?_) (fun c8 => ?_)
              · have E := (if_pos c8).symm.trans E
                exact ((ih 89 ((vX11_letterOf b0 (x1 : Int32) h) : Option Nat) 0 (x2 : Int32) h _ _ E hs).2.2 rfl)
              · have E := (if_neg c8).symm.trans E
                refine ea_iload_n (pc := 68) dX11_order_68 rfl 0 rfl ?_
                refine ea_bipush (pc := 69) dX11_order_69 (v := 10) rfl ?_
                refine ea_aload_n (pc := 71) dX11_order_71 rfl 1 rfl ?_
                obtain ⟨e2, E⟩ := gd_some E
                obtain ⟨f3, E⟩ := gd_some E
                refine ea_deref0 e2 ?_
                refine ea_getI (pc := 72) dX11_order_72 ec_4 (k := 18) (Nat.le_of_ble_eq_true rfl) rfl (Or.inl ew_978) f3.1 f3.2 ?_
                refine ea_iadd (pc := 75) dX11_order_75 ?_
                refine ea_icmp_ge (pc := 76) (tgt := 89) dX11_order_76 rfl (fun c7 => ?_) (fun c7 => ?_)
                · have E := (if_pos c7).symm.trans E
                  exact ((ih 89 ((vX11_letterOf b0 (x1 : Int32) h) : Option Nat) 0 (x2 : Int32) h _ _ E hs).2.2 rfl)
                · have E := (if_neg c7).symm.trans E
                  refine ea_aload_n (pc := 79) dX11_order_79 rfl 1 rfl ?_
                  refine ea_iload_n (pc := 80) dX11_order_80 rfl 0 rfl ?_
                  refine ea_bipush (pc := 81) dX11_order_81 (v := 10) rfl ?_
                  refine ea_isub (pc := 83) dX11_order_83 ?_
                  obtain ⟨e4, E⟩ := gd_some E
                  obtain ⟨f5, E⟩ := gd_some E
                  obtain ⟨z6, E⟩ := gd_some E
                  refine ea_deref1 e4 ?_
                  refine ea_callV (pc := 84) (d' := d - 1) (As := [vI (x2 - (10 : Int32))]) (st := []) dX11_order_84 kX4_placeTown (sX4_placeTown (d := d - 1) (by omega) hs z6) (by omega) rfl (Nat.le_of_ble_eq_true rfl) ew_1217 ew_1199 ew_1200 (ci := 4) rfl (by decide) f5.1 f5.2 ?_
                  refine ea_i2l (pc := 87) dX11_order_87 ?_
                  exact ea_lretO (pc := 88) dX11_order_88 rfl E
            · have E := (if_pos c9).symm.trans E
              exact ((ih 34 ((vX11_letterOf b0 (x1 : Int32) h) : Option Nat) 0 (x2 : Int32) h _ _ E hs).2.1 rfl)
        · have E := (if_pos c13).symm.trans E
          refine ea_aload_n (pc := 18) dX11_order_18 rfl 1 rfl ?_
          obtain ⟨e11, E⟩ := gd_some E
          obtain ⟨f12, E⟩ := gd_some E
          refine ea_deref0 e11 ?_
          refine ea_getI (pc := 19) dX11_order_19 ec_4 (k := 18) (Nat.le_of_ble_eq_true rfl) rfl (Or.inl ew_978) f12.1 f12.2 ?_
          refine ea_i2l (pc := 22) dX11_order_22 ?_
          exact ea_lretO (pc := 23) dX11_order_23 rfl E
      · have E := (if_pos c14).symm.trans E
        refine ea_ldc2 (pc := 10) dX11_order_10 ew_1206 ?_
        exact ea_lretO (pc := 13) dX11_order_13 rfl E
    refine ⟨?_, ?_⟩
    · intro el
      subst el
      have E := (if_neg (by decide)).symm.trans E
      have E := (if_pos rfl).symm.trans E
      refine ea_aload_n (pc := 34) dX11_order_34 rfl 1 rfl ?_
      obtain ⟨e16, E⟩ := gd_some E
      obtain ⟨f17, E⟩ := gd_some E
      refine ea_deref0 e16 ?_
      refine ea_getI (pc := 35) dX11_order_35 ec_4 (k := 18) (Nat.le_of_ble_eq_true rfl) rfl (Or.inl ew_978) f17.1 f17.2 ?_
      refine ea_if_ne (pc := 38) (tgt := 47) dX11_order_38 rfl (fun c29 => ?_) (fun c29 => ?_)
      · have E := (if_neg c29).symm.trans E
        refine ea_aload_n (pc := 47) dX11_order_47 rfl 1 rfl ?_
        refine ea_iload_n (pc := 48) dX11_order_48 rfl 0 rfl ?_
        refine ea_iconst (pc := 49) dX11_order_49 (v := 1) rfl ?_
        refine ea_icmp_ne (pc := 50) (tgt := 57) dX11_order_50 rfl (fun c28 => ?_) (fun c28 => ?_)
        · have E := (if_neg c28).symm.trans E
          refine ea_iconst (pc := 57) dX11_order_57 (v := 0) rfl ?_
          obtain ⟨e18, E⟩ := gd_some E
          obtain ⟨f19, E⟩ := gd_some E
          obtain ⟨z20, E⟩ := gd_some E
          refine ea_deref1 e18 ?_
          refine ea_callV (pc := 58) (d' := d - 1) (As := [vI 0]) (st := []) dX11_order_58 kX4_foundByAll (sX4_foundByAll (d := d - 1) (by omega) hs z20) (by omega) rfl (Nat.le_of_ble_eq_true rfl) ew_1207 ew_1208 ew_1209 (ci := 4) rfl (by decide) f19.1 f19.2 ?_
          have hs21 : ShC b0 (wX4_foundByAll b0 (Option.getD r3 0) (0 : Int32) h) := shX4_foundByAll hs
          obtain ⟨H22, eH22, E⟩ := let_some E
          refine ea_nm eH22 ?_
          have hsH22 : ShC b0 H22 := by rw [eH22]; exact hs21
          exact ea_lretO (pc := 61) dX11_order_61 rfl E
        · have E := (if_pos c28).symm.trans E
          refine ea_iconst (pc := 53) dX11_order_53 (v := 1) rfl ?_
          refine ea_goto (pc := 54) (tgt := 58) dX11_order_54 rfl ?_
          obtain ⟨e23, E⟩ := gd_some E
          obtain ⟨f24, E⟩ := gd_some E
          obtain ⟨z25, E⟩ := gd_some E
          refine ea_deref1 e23 ?_
          refine ea_callV (pc := 58) (d' := d - 1) (As := [vI 1]) (st := []) dX11_order_58 kX4_foundByAll (sX4_foundByAll (d := d - 1) (by omega) hs z25) (by omega) rfl (Nat.le_of_ble_eq_true rfl) ew_1207 ew_1208 ew_1209 (ci := 4) rfl (by decide) f24.1 f24.2 ?_
          have hs26 : ShC b0 (wX4_foundByAll b0 (Option.getD r3 0) (1 : Int32) h) := shX4_foundByAll hs
          obtain ⟨H27, eH27, E⟩ := let_some E
          refine ea_nm eH27 ?_
          have hsH27 : ShC b0 H27 := by rw [eH27]; exact hs26
          exact ea_lretO (pc := 61) dX11_order_61 rfl E
      · have E := (if_pos c29).symm.trans E
        refine ea_ldc2 (pc := 41) dX11_order_41 ew_1206 ?_
        refine ea_goto (pc := 44) (tgt := 61) dX11_order_44 rfl ?_
        exact ea_lretO (pc := 61) dX11_order_61 rfl E
    intro el
    subst el
    have E := (if_neg (by decide)).symm.trans E
    have E := (if_neg (by decide)).symm.trans E
    have E := (if_pos rfl).symm.trans E
    refine ea_iload_n (pc := 89) dX11_order_89 rfl 0 rfl ?_
    refine ea_bipush (pc := 90) dX11_order_90 (v := 20) rfl ?_
    refine ea_icmp_lt (pc := 92) (tgt := 116) dX11_order_92 rfl (fun c36 => ?_) (fun c36 => ?_)
    · have E := (if_pos c36).symm.trans E
      refine ea_ldc2 (pc := 116) dX11_order_116 ew_1206 ?_
      exact ea_lretO (pc := 119) dX11_order_119 rfl E
    · have E := (if_neg c36).symm.trans E
      refine ea_iload_n (pc := 95) dX11_order_95 rfl 0 rfl ?_
      refine ea_bipush (pc := 96) dX11_order_96 (v := 20) rfl ?_
      refine ea_aload_n (pc := 98) dX11_order_98 rfl 1 rfl ?_
      obtain ⟨e30, E⟩ := gd_some E
      obtain ⟨f31, E⟩ := gd_some E
      refine ea_deref0 e30 ?_
      refine ea_getI (pc := 99) dX11_order_99 ec_4 (k := 18) (Nat.le_of_ble_eq_true rfl) rfl (Or.inl ew_978) f31.1 f31.2 ?_
      refine ea_iadd (pc := 102) dX11_order_102 ?_
      refine ea_icmp_ge (pc := 103) (tgt := 116) dX11_order_103 rfl (fun c35 => ?_) (fun c35 => ?_)
      · have E := (if_pos c35).symm.trans E
        refine ea_ldc2 (pc := 116) dX11_order_116 ew_1206 ?_
        exact ea_lretO (pc := 119) dX11_order_119 rfl E
      · have E := (if_neg c35).symm.trans E
        refine ea_aload_n (pc := 106) dX11_order_106 rfl 1 rfl ?_
        refine ea_iload_n (pc := 107) dX11_order_107 rfl 0 rfl ?_
        refine ea_bipush (pc := 108) dX11_order_108 (v := 20) rfl ?_
        refine ea_isub (pc := 110) dX11_order_110 ?_
        obtain ⟨e32, E⟩ := gd_some E
        obtain ⟨f33, E⟩ := gd_some E
        obtain ⟨z34, E⟩ := gd_some E
        refine ea_deref1 e32 ?_
        refine ea_callV (pc := 111) (d' := d - 1) (As := [vI (x2 - (20 : Int32))]) (st := []) dX11_order_111 kX4_placeChance (sX4_placeChance (d := d - 1) (by omega) hs z34) (by omega) rfl (Nat.le_of_ble_eq_true rfl) ew_1218 ew_1213 ew_1214 (ci := 4) rfl (by decide) f33.1 f33.2 ?_
        refine ea_i2l (pc := 114) dX11_order_114 ?_
        exact ea_lretO (pc := 115) dX11_order_115 rfl E
noncomputable def qX11_order (b0 : Nat) (x1 : Int32) (x2 : Int32) (h : ea_H) : Option (Int64 × ea_H) := gX11_order b0 1000000000 0 none x1 x2 h
def okX11_order (b0 : Nat) (x1 : Int32) (x2 : Int32) (h : ea_H) : Prop := ∃ x, qX11_order b0 x1 x2 h = some x
noncomputable def vX11_order (b0 : Nat) (x1 : Int32) (x2 : Int32) (h : ea_H) : Int64 := ((qX11_order b0 x1 x2 h).getD (0, h)).1
noncomputable def wX11_order (b0 : Nat) (x1 : Int32) (x2 : Int32) (h : ea_H) : ea_H := ((qX11_order b0 x1 x2 h).getD (0, h)).2
theorem sX11_order {d : Nat} {b0 : Nat} {x1 : Int32} {x2 : Int32} {h : ea_H} (hd : 3 ≤ d) (hs : ShC b0 h) (K : okX11_order b0 x1 x2 h) : ea_Met mX11_order d [vR (some (b0 + 0)), vI x1, vI x2] h (some (vJ (vX11_order b0 x1 x2 h))) (wX11_order b0 x1 x2 h) := by
  obtain ⟨⟨x, y⟩, K⟩ := K
  unfold wX11_order vX11_order
  rw [K]
  unfold qX11_order at K
  exact ea_enter rfl (Nat.le_of_ble_eq_true rfl) ((tX11_order hd 1000000000 0 none x1 x2 h x y K hs).1 rfl)
theorem zX11_order {b0 : Nat} : ∀ (f lbl : Nat) (r3 : Option Nat) (x1 : Int32) (x2 : Int32) (h : ea_H) (r : Int64) (h' : ea_H), gX11_order b0 f lbl r3 x1 x2 h = some (r, h') → ShC b0 h → ShC b0 h' := by
  intro f
  induction f with
  | zero => intro lbl r3 x1 x2 h r h' E; cases E
  | succ f ih =>
    intro lbl r3 x1 x2 h r h' E hs
    unfold gX11_order at E
    by_cases el0 : lbl = 0
    · have E := (if_pos el0).symm.trans E
      obtain ⟨z1, E⟩ := gd_some E
      by_cases c14 : (vX11_letterOf b0 (x1 : Int32) h) = none
      · have E := (if_pos c14).symm.trans E
        exact ea_shO E hs
      have E := (if_neg c14).symm.trans E
      by_cases c13 : x2 = (0 : Int32)
      · have E := (if_pos c13).symm.trans E
        obtain ⟨e11, E⟩ := gd_some E
        obtain ⟨f12, E⟩ := gd_some E
        exact ea_shO E hs
      have E := (if_neg c13).symm.trans E
      by_cases c10 : x2 = (1 : Int32)
      · have E := (if_pos c10).symm.trans E
        exact ih 34 ((vX11_letterOf b0 (x1 : Int32) h) : Option Nat) 0 (x2 : Int32) h _ _ E hs
      have E := (if_neg c10).symm.trans E
      by_cases c9 : x2 = (2 : Int32)
      · have E := (if_pos c9).symm.trans E
        exact ih 34 ((vX11_letterOf b0 (x1 : Int32) h) : Option Nat) 0 (x2 : Int32) h _ _ E hs
      have E := (if_neg c9).symm.trans E
      by_cases c8 : x2 < (10 : Int32)
      · have E := (if_pos c8).symm.trans E
        exact ih 89 ((vX11_letterOf b0 (x1 : Int32) h) : Option Nat) 0 (x2 : Int32) h _ _ E hs
      have E := (if_neg c8).symm.trans E
      obtain ⟨e2, E⟩ := gd_some E
      obtain ⟨f3, E⟩ := gd_some E
      by_cases c7 : ((10 : Int32) + (ea_i h (Option.getD (vX11_letterOf b0 (x1 : Int32) h) 0) 18)) ≤ x2
      · have E := (if_pos c7).symm.trans E
        exact ih 89 ((vX11_letterOf b0 (x1 : Int32) h) : Option Nat) 0 (x2 : Int32) h _ _ E hs
      have E := (if_neg c7).symm.trans E
      obtain ⟨e4, E⟩ := gd_some E
      obtain ⟨f5, E⟩ := gd_some E
      obtain ⟨z6, E⟩ := gd_some E
      exact ea_shO E hs
    have E := (if_neg el0).symm.trans E
    by_cases el1 : lbl = 34
    · have E := (if_pos el1).symm.trans E
      obtain ⟨e16, E⟩ := gd_some E
      obtain ⟨f17, E⟩ := gd_some E
      by_cases c29 : (ea_i h (Option.getD r3 0) 18) = (0 : Int32)
      · have E := (if_pos c29).symm.trans E
        exact ea_shO E hs
      have E := (if_neg c29).symm.trans E
      by_cases c28 : x2 = (1 : Int32)
      · have E := (if_pos c28).symm.trans E
        obtain ⟨e23, E⟩ := gd_some E
        obtain ⟨f24, E⟩ := gd_some E
        obtain ⟨z25, E⟩ := gd_some E
        obtain ⟨H27, eH27, E⟩ := let_some E
        have hsH27 : ShC b0 H27 := by rw [eH27]; exact (shX4_foundByAll hs)
        exact ea_shO E hsH27
      have E := (if_neg c28).symm.trans E
      obtain ⟨e18, E⟩ := gd_some E
      obtain ⟨f19, E⟩ := gd_some E
      obtain ⟨z20, E⟩ := gd_some E
      obtain ⟨H22, eH22, E⟩ := let_some E
      have hsH22 : ShC b0 H22 := by rw [eH22]; exact (shX4_foundByAll hs)
      exact ea_shO E hsH22
    have E := (if_neg el1).symm.trans E
    by_cases el2 : lbl = 89
    · have E := (if_pos el2).symm.trans E
      by_cases c36 : x2 < (20 : Int32)
      · have E := (if_pos c36).symm.trans E
        exact ea_shO E hs
      have E := (if_neg c36).symm.trans E
      obtain ⟨e30, E⟩ := gd_some E
      obtain ⟨f31, E⟩ := gd_some E
      by_cases c35 : ((20 : Int32) + (ea_i h (Option.getD r3 0) 18)) ≤ x2
      · have E := (if_pos c35).symm.trans E
        exact ea_shO E hs
      have E := (if_neg c35).symm.trans E
      obtain ⟨e32, E⟩ := gd_some E
      obtain ⟨f33, E⟩ := gd_some E
      obtain ⟨z34, E⟩ := gd_some E
      exact ea_shO E hs
    have E := (if_neg el2).symm.trans E
    cases E
theorem shX11_order {b0 : Nat} {x1 : Int32} {x2 : Int32} {h : ea_H} (hs : ShC b0 h) : ShC b0 (wX11_order b0 x1 x2 h) := by
  unfold wX11_order
  cases K : qX11_order b0 x1 x2 h with
  | none => exact hs
  | some x => obtain ⟨x, y⟩ := x; unfold qX11_order at K; exact zX11_order _ _ _ _ _ _ _ _ K hs
noncomputable def gX11_trueMinute (b0 : Nat) : Nat → Nat → Int32 → Int32 → Int32 → ea_H → Option (Int32 × ea_H)
  | 0, _, _, _, _, _ => none
  | f + 1, lbl, x1, x2, x3, h =>
    (if (vX9_has b0 (x1 : Int32) h) = (0 : Int32) then (some (((-1) : Int32), h)) else (if x2 < (0 : Int32) then (some (((-1) : Int32), h)) else (if x2 ≤ (10079 : Int32) then none else (some (((-1) : Int32), h)))))
theorem tX11_trueMinute {d : Nat} {b0 : Nat} {h0 : ea_H} (hd : 4 ≤ d) : ∀ (f lbl : Nat) (x1 : Int32) (x2 : Int32) (x3 : Int32) (h : ea_H) (r : Int32) (h' : ea_H), gX11_trueMinute b0 f lbl x1 x2 x3 h = some (r, h') → ShC b0 h → (lbl = 0 → ea_W mX11_trueMinute d h0 (some (vI r)) h' 0 [(0, vR (some (b0 + 0))), (1, vI x1), (2, vI x2), (3, vI x3)] [] h) := by
  intro f
  induction f with
  | zero => intro lbl x1 x2 x3 h r h' E; cases E
  | succ f ih =>
    intro lbl x1 x2 x3 h r h' E hs
    unfold gX11_trueMinute at E
    intro el
    subst el
    refine ea_aload_n (pc := 0) dX11_trueMinute_0 rfl 0 rfl ?_
    refine ea_getR (pc := 1) dX11_trueMinute_1 ec_11 (k := 1) (Nat.le_of_ble_eq_true rfl) rfl (Or.inl ew_438) (hs.1 0 (by decide)).1 (hs.1 0 (by decide)).2.1 (hs.2 0 1 rfl) ?_
    refine ea_iload_n (pc := 4) dX11_trueMinute_4 rfl 1 rfl ?_
    refine ea_callV (pc := 5) (d' := d - 1) (As := [vI x1]) (st := []) dX11_trueMinute_5 kX9_has (sX9_has (d := d - 1) (by omega) hs) (by omega) rfl (Nat.le_of_ble_eq_true rfl) ew_518 ew_519 ew_520 (ci := 9) rfl (by decide) (hs.1 5 (by decide)).1 (hs.1 5 (by decide)).2.1 ?_
    refine ea_if_eq (pc := 8) (tgt := 22) dX11_trueMinute_8 rfl (fun c4 => ?_) (fun c4 => ?_)
    · have E := (if_pos c4).symm.trans E
      refine ea_iconst (pc := 22) dX11_trueMinute_22 (v := (-1)) rfl ?_
      exact ea_iretO (pc := 23) dX11_trueMinute_23 rfl rfl E
    · have E := (if_neg c4).symm.trans E
      refine ea_iload_n (pc := 11) dX11_trueMinute_11 rfl 2 rfl ?_
      refine ea_if_lt (pc := 12) (tgt := 22) dX11_trueMinute_12 rfl (fun c3 => ?_) (fun c3 => ?_)
      · have E := (if_pos c3).symm.trans E
        refine ea_iconst (pc := 22) dX11_trueMinute_22 (v := (-1)) rfl ?_
        exact ea_iretO (pc := 23) dX11_trueMinute_23 rfl rfl E
      · have E := (if_neg c3).symm.trans E
        refine ea_iload_n (pc := 15) dX11_trueMinute_15 rfl 2 rfl ?_
        refine ea_sipush (pc := 16) dX11_trueMinute_16 (v := 10079) rfl ?_
        refine ea_icmp_le (pc := 19) (tgt := 24) dX11_trueMinute_19 rfl (fun c2 => ?_) (fun c2 => ?_)
        · have E := (if_pos c2).symm.trans E
          refine ea_iload_n (pc := 24) dX11_trueMinute_24 rfl 3 rfl ?_
          cases E
        · have E := (if_neg c2).symm.trans E
          refine ea_iconst (pc := 22) dX11_trueMinute_22 (v := (-1)) rfl ?_
          exact ea_iretO (pc := 23) dX11_trueMinute_23 rfl rfl E
noncomputable def qX11_trueMinute (b0 : Nat) (x1 : Int32) (x2 : Int32) (x3 : Int32) (h : ea_H) : Option (Int32 × ea_H) := gX11_trueMinute b0 1000000000 0 x1 x2 x3 h
def okX11_trueMinute (b0 : Nat) (x1 : Int32) (x2 : Int32) (x3 : Int32) (h : ea_H) : Prop := ∃ x, qX11_trueMinute b0 x1 x2 x3 h = some x
noncomputable def vX11_trueMinute (b0 : Nat) (x1 : Int32) (x2 : Int32) (x3 : Int32) (h : ea_H) : Int32 := ((qX11_trueMinute b0 x1 x2 x3 h).getD (0, h)).1
noncomputable def wX11_trueMinute (b0 : Nat) (x1 : Int32) (x2 : Int32) (x3 : Int32) (h : ea_H) : ea_H := ((qX11_trueMinute b0 x1 x2 x3 h).getD (0, h)).2
theorem sX11_trueMinute {d : Nat} {b0 : Nat} {x1 : Int32} {x2 : Int32} {x3 : Int32} {h : ea_H} (hd : 4 ≤ d) (hs : ShC b0 h) (K : okX11_trueMinute b0 x1 x2 x3 h) : ea_Met mX11_trueMinute d [vR (some (b0 + 0)), vI x1, vI x2, vI x3] h (some (vI (vX11_trueMinute b0 x1 x2 x3 h))) (wX11_trueMinute b0 x1 x2 x3 h) := by
  obtain ⟨⟨x, y⟩, K⟩ := K
  unfold wX11_trueMinute vX11_trueMinute
  rw [K]
  unfold qX11_trueMinute at K
  exact ea_enter rfl (Nat.le_of_ble_eq_true rfl) ((tX11_trueMinute hd 1000000000 0 x1 x2 x3 h x y K hs) rfl)
theorem zX11_trueMinute {b0 : Nat} : ∀ (f lbl : Nat) (x1 : Int32) (x2 : Int32) (x3 : Int32) (h : ea_H) (r : Int32) (h' : ea_H), gX11_trueMinute b0 f lbl x1 x2 x3 h = some (r, h') → ShC b0 h → ShC b0 h' := by
  intro f
  induction f with
  | zero => intro lbl x1 x2 x3 h r h' E; cases E
  | succ f ih =>
    intro lbl x1 x2 x3 h r h' E hs
    unfold gX11_trueMinute at E
    by_cases c4 : (vX9_has b0 (x1 : Int32) h) = (0 : Int32)
    · have E := (if_pos c4).symm.trans E
      exact ea_shO E hs
    have E := (if_neg c4).symm.trans E
    by_cases c3 : x2 < (0 : Int32)
    · have E := (if_pos c3).symm.trans E
      exact ea_shO E hs
    have E := (if_neg c3).symm.trans E
    by_cases c2 : x2 ≤ (10079 : Int32)
    · have E := (if_pos c2).symm.trans E
      cases E
    have E := (if_neg c2).symm.trans E
    exact ea_shO E hs
theorem shX11_trueMinute {b0 : Nat} {x1 : Int32} {x2 : Int32} {x3 : Int32} {h : ea_H} (hs : ShC b0 h) : ShC b0 (wX11_trueMinute b0 x1 x2 x3 h) := by
  unfold wX11_trueMinute
  cases K : qX11_trueMinute b0 x1 x2 x3 h with
  | none => exact hs
  | some x => obtain ⟨x, y⟩ := x; unfold qX11_trueMinute at K; exact zX11_trueMinute _ _ _ _ _ _ _ _ K hs
noncomputable def gX1_sort_at32 (b0 : Nat) : Nat → Nat → Int32 → Int32 → Int32 → Int32 → Int32 → Int32 → ea_H → Option (Unit × ea_H)
  | 0, _, _, _, _, _, _, _, _ => none
  | f + 1, lbl, x1, x2, x3, x4, x5, x6, h =>
    if lbl = 0 then (gd (vp_in x2 10) (if (x3 + (1 : Int32)) < (ea_i h (b0 + 6) (Int32.toNatClampNeg x2)) then (gd (vp_in ((((8 : Int32) * x2) + x3) + (1 : Int32)) 80) (gd (vp_in (((8 : Int32) * x2) + x3) 80) (gd ((okX3_begin b0 (((ea_i h (b0 + 8) (Int32.toNatClampNeg ((((8 : Int32) * x2) + x3) + (1 : Int32)))) - (ea_i h (b0 + 9) (Int32.toNatClampNeg (((8 : Int32) * x2) + x3)))) : Int32) h)) (ea_let (wX3_begin b0 (((ea_i h (b0 + 8) (Int32.toNatClampNeg ((((8 : Int32) * x2) + x3) + (1 : Int32)))) - (ea_i h (b0 + 9) (Int32.toNatClampNeg (((8 : Int32) * x2) + x3)))) : Int32) h) fun H6 => (gX1_sort_at32 b0 f 57 (x1 : Int32) (x2 : Int32) 0 (0 : Int32) 0 0 H6))))) else (some ((), h)))) else
    if lbl = 57 then (gd (vp_in x2 10) (if (ea_i h (b0 + 6) (Int32.toNatClampNeg x2)) ≤ x4 then (some ((), h)) else (gd (vp_in (((8 : Int32) * x2) + x4) 80) (gX1_sort_at32 b0 f 91 (x1 : Int32) (x2 : Int32) 0 (x4 : Int32) ((ea_i h (b0 + 7) (Int32.toNatClampNeg (((8 : Int32) * x2) + x4))) : Int32) (0 : Int32) h)))) else
    if lbl = 91 then (if (ea_i h (b0 + 32) 0) ≤ x6 then (gX1_sort_at32 b0 f 57 (x1 : Int32) (x2 : Int32) 0 ((x4 + (1 : Int32)) : Int32) 0 0 h) else (gd ((okX1_isAboard_at32 b0 (x6 : Int32) (x1 : Int32) h)) (if (vX1_isAboard_at32 b0 (x6 : Int32) (x1 : Int32) h) = (0 : Int32) then (gX1_sort_at32 b0 f 91 (x1 : Int32) (x2 : Int32) 0 (x4 : Int32) (x5 : Int32) ((x6 + (1 : Int32)) : Int32) h) else (gd (vp_in x6 120) (if (ea_i h (b0 + 37) (Int32.toNatClampNeg x6)) = (0 : Int32) then (gd (vp_in x6 120) (if (ea_i h (b0 + 35) (Int32.toNatClampNeg x6)) = x4 then (gd ((okX3_sortsOne b0 (x2 : Int32) (x5 : Int32) h)) (ea_let (wX3_sortsOne b0 (x2 : Int32) (x5 : Int32) h) fun H16 => (gd (vp_in x6 120) (gd (((vX3_sortsOne b0 (x2 : Int32) (x5 : Int32) h) = 0 ∨ (vX3_sortsOne b0 (x2 : Int32) (x5 : Int32) h) = 1)) (ea_let (ea_wi H16 (b0 + 37) (Int32.toNatClampNeg x6) (vX3_sortsOne b0 (x2 : Int32) (x5 : Int32) h)) fun H20 => (gX1_sort_at32 b0 f 91 (x1 : Int32) (x2 : Int32) 0 (x4 : Int32) (x5 : Int32) ((x6 + (1 : Int32)) : Int32) H20)))))) else (gX1_sort_at32 b0 f 91 (x1 : Int32) (x2 : Int32) 0 (x4 : Int32) (x5 : Int32) ((x6 + (1 : Int32)) : Int32) h))) else (gX1_sort_at32 b0 f 91 (x1 : Int32) (x2 : Int32) 0 (x4 : Int32) (x5 : Int32) ((x6 + (1 : Int32)) : Int32) h)))))) else none
theorem tX1_sort_at32 {d : Nat} {b0 : Nat} {h0 : ea_H} (hd : 2 ≤ d) : ∀ (f lbl : Nat) (x1 : Int32) (x2 : Int32) (x3 : Int32) (x4 : Int32) (x5 : Int32) (x6 : Int32) (h : ea_H) (r : Unit) (h' : ea_H), gX1_sort_at32 b0 f lbl x1 x2 x3 x4 x5 x6 h = some (r, h') → ShC b0 h → (lbl = 0 → ea_W mX1_sort d h0 none h' 0 [(0, vR (some (b0 + 32))), (1, vI x1), (2, vI x2), (3, vI x3)] [] h) ∧ (lbl = 57 → ea_W mX1_sort d h0 none h' 57 [(0, vR (some (b0 + 32))), (1, vI x1), (2, vI x2), (4, vI x4)] [] h) ∧ (lbl = 91 → ea_W mX1_sort d h0 none h' 91 [(0, vR (some (b0 + 32))), (1, vI x1), (2, vI x2), (4, vI x4), (5, vI x5), (6, vI x6)] [] h) := by
  intro f
  induction f with
  | zero => intro lbl x1 x2 x3 x4 x5 x6 h r h' E; cases E
  | succ f ih =>
    intro lbl x1 x2 x3 x4 x5 x6 h r h' E hs
    unfold gX1_sort_at32 at E
    refine ⟨?_, ?_⟩
    · intro el
      subst el
      have E := (if_pos rfl).symm.trans E
      refine ea_iload_n (pc := 0) dX1_sort_0 rfl 3 rfl ?_
      refine ea_iconst (pc := 1) dX1_sort_1 (v := 1) rfl ?_
      refine ea_iadd (pc := 2) dX1_sort_2 ?_
      refine ea_aload_n (pc := 3) dX1_sort_3 rfl 0 rfl ?_
      refine ea_getR (pc := 4) dX1_sort_4 ec_1 (k := 11) (Nat.le_of_ble_eq_true rfl) rfl (Or.inl ew_377) (hs.1 32 (by decide)).1 (hs.1 32 (by decide)).2.1 (hs.2 32 11 rfl) ?_
      refine ea_getR (pc := 7) dX1_sort_7 ec_9 (k := 1) (Nat.le_of_ble_eq_true rfl) rfl (Or.inl ew_182) (hs.1 5 (by decide)).1 (hs.1 5 (by decide)).2.1 (hs.2 5 1 rfl) ?_
      refine ea_iload_n (pc := 10) dX1_sort_10 rfl 2 rfl ?_
      obtain ⟨z1, E⟩ := gd_some E
      refine ea_iald (pc := 11) dX1_sort_11 (hs.1 6 (by decide)).1 (hs.1 6 (by decide)).2.1 (ea_vpl (hs.1 6 (by decide)).2.2 z1) ?_
      refine ea_icmp_lt (pc := 12) (tgt := 16) dX1_sort_12 rfl (fun c7 => ?_) (fun c7 => ?_)
      · have E := (if_pos c7).symm.trans E
        refine ea_aload_n (pc := 16) dX1_sort_16 rfl 0 rfl ?_
        refine ea_getR (pc := 17) dX1_sort_17 ec_1 (k := 13) (Nat.le_of_ble_eq_true rfl) rfl (Or.inl ew_379) (hs.1 32 (by decide)).1 (hs.1 32 (by decide)).2.1 (hs.2 32 13 rfl) ?_
        refine ea_aload_n (pc := 20) dX1_sort_20 rfl 0 rfl ?_
        refine ea_getR (pc := 21) dX1_sort_21 ec_1 (k := 11) (Nat.le_of_ble_eq_true rfl) rfl (Or.inl ew_377) (hs.1 32 (by decide)).1 (hs.1 32 (by decide)).2.1 (hs.2 32 11 rfl) ?_
        refine ea_getR (pc := 24) dX1_sort_24 ec_9 (k := 3) (Nat.le_of_ble_eq_true rfl) rfl (Or.inl ew_190) (hs.1 5 (by decide)).1 (hs.1 5 (by decide)).2.1 (hs.2 5 3 rfl) ?_
        refine ea_bipush (pc := 27) dX1_sort_27 (v := 8) rfl ?_
        refine ea_iload_n (pc := 29) dX1_sort_29 rfl 2 rfl ?_
        refine ea_imul (pc := 30) dX1_sort_30 ?_
        refine ea_iload_n (pc := 31) dX1_sort_31 rfl 3 rfl ?_
        refine ea_iadd (pc := 32) dX1_sort_32 ?_
        refine ea_iconst (pc := 33) dX1_sort_33 (v := 1) rfl ?_
        refine ea_iadd (pc := 34) dX1_sort_34 ?_
        obtain ⟨z2, E⟩ := gd_some E
        refine ea_iald (pc := 35) dX1_sort_35 (hs.1 8 (by decide)).1 (hs.1 8 (by decide)).2.1 (ea_vpl (hs.1 8 (by decide)).2.2 z2) ?_
        refine ea_aload_n (pc := 36) dX1_sort_36 rfl 0 rfl ?_
        refine ea_getR (pc := 37) dX1_sort_37 ec_1 (k := 11) (Nat.le_of_ble_eq_true rfl) rfl (Or.inl ew_377) (hs.1 32 (by decide)).1 (hs.1 32 (by decide)).2.1 (hs.2 32 11 rfl) ?_
        refine ea_getR (pc := 40) dX1_sort_40 ec_9 (k := 4) (Nat.le_of_ble_eq_true rfl) rfl (Or.inl ew_193) (hs.1 5 (by decide)).1 (hs.1 5 (by decide)).2.1 (hs.2 5 4 rfl) ?_
        refine ea_bipush (pc := 43) dX1_sort_43 (v := 8) rfl ?_
        refine ea_iload_n (pc := 45) dX1_sort_45 rfl 2 rfl ?_
        refine ea_imul (pc := 46) dX1_sort_46 ?_
        refine ea_iload_n (pc := 47) dX1_sort_47 rfl 3 rfl ?_
        refine ea_iadd (pc := 48) dX1_sort_48 ?_
        obtain ⟨z3, E⟩ := gd_some E
        refine ea_iald (pc := 49) dX1_sort_49 (hs.1 9 (by decide)).1 (hs.1 9 (by decide)).2.1 (ea_vpl (hs.1 9 (by decide)).2.2 z3) ?_
        refine ea_isub (pc := 50) dX1_sort_50 ?_
        obtain ⟨z4, E⟩ := gd_some E
        refine ea_callV (pc := 51) (d' := d - 1) (As := [vI ((ea_i h (b0 + 8) (Int32.toNatClampNeg ((((8 : Int32) * x2) + x3) + (1 : Int32)))) - (ea_i h (b0 + 9) (Int32.toNatClampNeg (((8 : Int32) * x2) + x3))))]) (st := []) dX1_sort_51 kX3_begin (sX3_begin (d := d - 1) (by omega) hs z4) (by omega) rfl (Nat.le_of_ble_eq_true rfl) ew_700 ew_701 ew_702 (ci := 3) rfl (by decide) (hs.1 16 (by decide)).1 (hs.1 16 (by decide)).2.1 ?_
        have hs5 : ShC b0 (wX3_begin b0 (((ea_i h (b0 + 8) (Int32.toNatClampNeg ((((8 : Int32) * x2) + x3) + (1 : Int32)))) - (ea_i h (b0 + 9) (Int32.toNatClampNeg (((8 : Int32) * x2) + x3)))) : Int32) h) := shX3_begin hs
        obtain ⟨H6, eH6, E⟩ := let_some E
        refine ea_nm eH6 ?_
        have hsH6 : ShC b0 H6 := by rw [eH6]; exact hs5
        refine ea_iconst (pc := 54) dX1_sort_54 (v := 0) rfl ?_
        refine ea_istore (pc := 55) (lv' := [(0, vR (some (b0 + 32))), (1, vI x1), (2, vI x2), (4, vI 0)]) dX1_sort_55 (Nat.le_of_ble_eq_true rfl) [1, 2, 3, 0] rfl ?_
        exact ((ih 57 (x1 : Int32) (x2 : Int32) 0 (0 : Int32) 0 0 H6 _ _ E hsH6).2.1 rfl)
      · have E := (if_neg c7).symm.trans E
        exact ea_vretO (pc := 15) dX1_sort_15 rfl E
    refine ⟨?_, ?_⟩
    · intro el
      subst el
      have E := (if_neg (by decide)).symm.trans E
      have E := (if_pos rfl).symm.trans E
      refine ea_iload (pc := 57) dX1_sort_57 3 rfl ?_
      refine ea_aload_n (pc := 59) dX1_sort_59 rfl 0 rfl ?_
      refine ea_getR (pc := 60) dX1_sort_60 ec_1 (k := 11) (Nat.le_of_ble_eq_true rfl) rfl (Or.inl ew_377) (hs.1 32 (by decide)).1 (hs.1 32 (by decide)).2.1 (hs.2 32 11 rfl) ?_
      refine ea_getR (pc := 63) dX1_sort_63 ec_9 (k := 1) (Nat.le_of_ble_eq_true rfl) rfl (Or.inl ew_182) (hs.1 5 (by decide)).1 (hs.1 5 (by decide)).2.1 (hs.2 5 1 rfl) ?_
      refine ea_iload_n (pc := 66) dX1_sort_66 rfl 2 rfl ?_
      obtain ⟨z8, E⟩ := gd_some E
      refine ea_iald (pc := 67) dX1_sort_67 (hs.1 6 (by decide)).1 (hs.1 6 (by decide)).2.1 (ea_vpl (hs.1 6 (by decide)).2.2 z8) ?_
      refine ea_icmp_ge (pc := 68) (tgt := 161) dX1_sort_68 rfl (fun c10 => ?_) (fun c10 => ?_)
      · have E := (if_pos c10).symm.trans E
        exact ea_vretO (pc := 161) dX1_sort_161 rfl E
      · have E := (if_neg c10).symm.trans E
        refine ea_aload_n (pc := 71) dX1_sort_71 rfl 0 rfl ?_
        refine ea_getR (pc := 72) dX1_sort_72 ec_1 (k := 11) (Nat.le_of_ble_eq_true rfl) rfl (Or.inl ew_377) (hs.1 32 (by decide)).1 (hs.1 32 (by decide)).2.1 (hs.2 32 11 rfl) ?_
        refine ea_getR (pc := 75) dX1_sort_75 ec_9 (k := 2) (Nat.le_of_ble_eq_true rfl) rfl (Or.inl ew_186) (hs.1 5 (by decide)).1 (hs.1 5 (by decide)).2.1 (hs.2 5 2 rfl) ?_
        refine ea_bipush (pc := 78) dX1_sort_78 (v := 8) rfl ?_
        refine ea_iload_n (pc := 80) dX1_sort_80 rfl 2 rfl ?_
        refine ea_imul (pc := 81) dX1_sort_81 ?_
        refine ea_iload (pc := 82) dX1_sort_82 3 rfl ?_
        refine ea_iadd (pc := 84) dX1_sort_84 ?_
        obtain ⟨z9, E⟩ := gd_some E
        refine ea_iald (pc := 85) dX1_sort_85 (hs.1 7 (by decide)).1 (hs.1 7 (by decide)).2.1 (ea_vpl (hs.1 7 (by decide)).2.2 z9) ?_
        refine ea_istore (pc := 86) (lv' := [(0, vR (some (b0 + 32))), (1, vI x1), (2, vI x2), (4, vI x4), (5, vI (ea_i h (b0 + 7) (Int32.toNatClampNeg (((8 : Int32) * x2) + x4))))]) dX1_sort_86 (Nat.le_of_ble_eq_true rfl) [1, 2, 3, 4, 0] rfl ?_
        refine ea_iconst (pc := 88) dX1_sort_88 (v := 0) rfl ?_
        refine ea_istore (pc := 89) (lv' := [(0, vR (some (b0 + 32))), (1, vI x1), (2, vI x2), (4, vI x4), (5, vI (ea_i h (b0 + 7) (Int32.toNatClampNeg (((8 : Int32) * x2) + x4)))), (6, vI 0)]) dX1_sort_89 (Nat.le_of_ble_eq_true rfl) [1, 2, 3, 4, 5, 0] rfl ?_
        exact ((ih 91 (x1 : Int32) (x2 : Int32) 0 (x4 : Int32) ((ea_i h (b0 + 7) (Int32.toNatClampNeg (((8 : Int32) * x2) + x4))) : Int32) (0 : Int32) h _ _ E hs).2.2 rfl)
    intro el
    subst el
    have E := (if_neg (by decide)).symm.trans E
    have E := (if_neg (by decide)).symm.trans E
    have E := (if_pos rfl).symm.trans E
    refine ea_iload (pc := 91) dX1_sort_91 5 rfl ?_
    refine ea_aload_n (pc := 93) dX1_sort_93 rfl 0 rfl ?_
    refine ea_getI (pc := 94) dX1_sort_94 ec_1 (k := 0) (Nat.le_of_ble_eq_true rfl) rfl (Or.inl ew_359) (hs.1 32 (by decide)).1 (hs.1 32 (by decide)).2.1 ?_
    refine ea_icmp_ge (pc := 97) (tgt := 155) dX1_sort_97 rfl (fun c24 => ?_) (fun c24 => ?_)
    · have E := (if_pos c24).symm.trans E
      refine ea_iinc (pc := 155) (v := 1) (lv' := [(0, vR (some (b0 + 32))), (1, vI x1), (2, vI x2), (4, vI (x4 + (1 : Int32)))]) dX1_sort_155 3 rfl rfl (Nat.le_of_ble_eq_true rfl) [1, 2, 3, 0] rfl ?_
      refine ea_goto (pc := 158) (tgt := 57) dX1_sort_158 rfl ?_
      exact ((ih 57 (x1 : Int32) (x2 : Int32) 0 ((x4 + (1 : Int32)) : Int32) 0 0 h _ _ E hs).2.1 rfl)
    · have E := (if_neg c24).symm.trans E
      refine ea_aload_n (pc := 100) dX1_sort_100 rfl 0 rfl ?_
      refine ea_iload (pc := 101) dX1_sort_101 5 rfl ?_
      refine ea_iload_n (pc := 103) dX1_sort_103 rfl 1 rfl ?_
      obtain ⟨z11, E⟩ := gd_some E
      refine ea_callV (pc := 104) (d' := d - 1) (As := [vI x6, vI x1]) (st := []) dX1_sort_104 kX1_isAboard (sX1_isAboard_at32 (d := d - 1) (by omega) hs z11) (by omega) rfl (Nat.le_of_ble_eq_true rfl) ew_704 ew_705 ew_706 (ci := 1) rfl (by decide) (hs.1 32 (by decide)).1 (hs.1 32 (by decide)).2.1 ?_
      refine ea_if_eq (pc := 107) (tgt := 149) dX1_sort_107 rfl (fun c23 => ?_) (fun c23 => ?_)
      · have E := (if_pos c23).symm.trans E
        refine ea_iinc (pc := 149) (v := 1) (lv' := [(0, vR (some (b0 + 32))), (1, vI x1), (2, vI x2), (4, vI x4), (5, vI x5), (6, vI (x6 + (1 : Int32)))]) dX1_sort_149 5 rfl rfl (Nat.le_of_ble_eq_true rfl) [1, 2, 3, 4, 5, 0] rfl ?_
        refine ea_goto (pc := 152) (tgt := 91) dX1_sort_152 rfl ?_
        exact ((ih 91 (x1 : Int32) (x2 : Int32) 0 (x4 : Int32) (x5 : Int32) ((x6 + (1 : Int32)) : Int32) h _ _ E hs).2.2 rfl)
      · have E := (if_neg c23).symm.trans E
        refine ea_aload_n (pc := 110) dX1_sort_110 rfl 0 rfl ?_
        refine ea_getR (pc := 111) dX1_sort_111 ec_1 (k := 5) (Nat.le_of_ble_eq_true rfl) rfl (Or.inl ew_369) (hs.1 32 (by decide)).1 (hs.1 32 (by decide)).2.1 (hs.2 32 5 rfl) ?_
        refine ea_iload (pc := 114) dX1_sort_114 5 rfl ?_
        obtain ⟨z12, E⟩ := gd_some E
        refine ea_zald (pc := 116) dX1_sort_116 (hs.1 37 (by decide)).1 (hs.1 37 (by decide)).2.1 (ea_vpl (hs.1 37 (by decide)).2.2 z12) ?_
        refine ea_if_ne (pc := 117) (tgt := 149) dX1_sort_117 rfl (fun c22 => ?_) (fun c22 => ?_)
        · have E := (if_neg c22).symm.trans E
          refine ea_iinc (pc := 149) (v := 1) (lv' := [(0, vR (some (b0 + 32))), (1, vI x1), (2, vI x2), (4, vI x4), (5, vI x5), (6, vI (x6 + (1 : Int32)))]) dX1_sort_149 5 rfl rfl (Nat.le_of_ble_eq_true rfl) [1, 2, 3, 4, 5, 0] rfl ?_
          refine ea_goto (pc := 152) (tgt := 91) dX1_sort_152 rfl ?_
          exact ((ih 91 (x1 : Int32) (x2 : Int32) 0 (x4 : Int32) (x5 : Int32) ((x6 + (1 : Int32)) : Int32) h _ _ E hs).2.2 rfl)
        · have E := (if_pos c22).symm.trans E
          refine ea_aload_n (pc := 120) dX1_sort_120 rfl 0 rfl ?_
          refine ea_getR (pc := 121) dX1_sort_121 ec_1 (k := 3) (Nat.le_of_ble_eq_true rfl) rfl (Or.inl ew_365) (hs.1 32 (by decide)).1 (hs.1 32 (by decide)).2.1 (hs.2 32 3 rfl) ?_
          refine ea_iload (pc := 124) dX1_sort_124 5 rfl ?_
          obtain ⟨z13, E⟩ := gd_some E
          refine ea_iald (pc := 126) dX1_sort_126 (hs.1 35 (by decide)).1 (hs.1 35 (by decide)).2.1 (ea_vpl (hs.1 35 (by decide)).2.2 z13) ?_
          refine ea_iload (pc := 127) dX1_sort_127 3 rfl ?_
          refine ea_icmp_ne (pc := 129) (tgt := 149) dX1_sort_129 rfl (fun c21 => ?_) (fun c21 => ?_)
          · have E := (if_neg c21).symm.trans E
            refine ea_iinc (pc := 149) (v := 1) (lv' := [(0, vR (some (b0 + 32))), (1, vI x1), (2, vI x2), (4, vI x4), (5, vI x5), (6, vI (x6 + (1 : Int32)))]) dX1_sort_149 5 rfl rfl (Nat.le_of_ble_eq_true rfl) [1, 2, 3, 4, 5, 0] rfl ?_
            refine ea_goto (pc := 152) (tgt := 91) dX1_sort_152 rfl ?_
            exact ((ih 91 (x1 : Int32) (x2 : Int32) 0 (x4 : Int32) (x5 : Int32) ((x6 + (1 : Int32)) : Int32) h _ _ E hs).2.2 rfl)
          · have E := (if_pos c21).symm.trans E
            refine ea_aload_n (pc := 132) dX1_sort_132 rfl 0 rfl ?_
            refine ea_getR (pc := 133) dX1_sort_133 ec_1 (k := 5) (Nat.le_of_ble_eq_true rfl) rfl (Or.inl ew_369) (hs.1 32 (by decide)).1 (hs.1 32 (by decide)).2.1 (hs.2 32 5 rfl) ?_
            refine ea_iload (pc := 136) dX1_sort_136 5 rfl ?_
            refine ea_aload_n (pc := 138) dX1_sort_138 rfl 0 rfl ?_
            refine ea_getR (pc := 139) dX1_sort_139 ec_1 (k := 13) (Nat.le_of_ble_eq_true rfl) rfl (Or.inl ew_379) (hs.1 32 (by decide)).1 (hs.1 32 (by decide)).2.1 (hs.2 32 13 rfl) ?_
            refine ea_iload_n (pc := 142) dX1_sort_142 rfl 2 rfl ?_
            refine ea_iload (pc := 143) dX1_sort_143 4 rfl ?_
            obtain ⟨z14, E⟩ := gd_some E
            refine ea_callV (pc := 145) (d' := d - 1) (As := [vI x2, vI x5]) (st := [vI x6, vR (some (b0 + 37))]) dX1_sort_145 kX3_sortsOne (sX3_sortsOne (d := d - 1) (by omega) hs z14) (by omega) rfl (Nat.le_of_ble_eq_true rfl) ew_708 ew_709 ew_710 (ci := 3) rfl (by decide) (hs.1 16 (by decide)).1 (hs.1 16 (by decide)).2.1 ?_
            have hs15 : ShC b0 (wX3_sortsOne b0 (x2 : Int32) (x5 : Int32) h) := shX3_sortsOne hs
            obtain ⟨H16, eH16, E⟩ := let_some E
            refine ea_nm eH16 ?_
            have hsH16 : ShC b0 H16 := by rw [eH16]; exact hs15
            obtain ⟨z17, E⟩ := gd_some E
            obtain ⟨z19, E⟩ := gd_some E
            refine ea_zast (pc := 148) dX1_sort_148 (y := (vX3_sortsOne b0 (x2 : Int32) (x5 : Int32) h)) (ea_bn z19) (hsH16.1 37 (by decide)).1 (hsH16.1 37 (by decide)).2.1 (ea_vpl (hsH16.1 37 (by decide)).2.2 z17) ?_
            have hs18 : ShC b0 (ea_wi H16 (b0 + 37) (Int32.toNatClampNeg x6) (vX3_sortsOne b0 (x2 : Int32) (x5 : Int32) h)) := ShC_wi hsH16
            obtain ⟨H20, eH20, E⟩ := let_some E
            refine ea_nm eH20 ?_
            have hsH20 : ShC b0 H20 := by rw [eH20]; exact hs18
            refine ea_iinc (pc := 149) (v := 1) (lv' := [(0, vR (some (b0 + 32))), (1, vI x1), (2, vI x2), (4, vI x4), (5, vI x5), (6, vI (x6 + (1 : Int32)))]) dX1_sort_149 5 rfl rfl (Nat.le_of_ble_eq_true rfl) [1, 2, 3, 4, 5, 0] rfl ?_
            refine ea_goto (pc := 152) (tgt := 91) dX1_sort_152 rfl ?_
            exact ((ih 91 (x1 : Int32) (x2 : Int32) 0 (x4 : Int32) (x5 : Int32) ((x6 + (1 : Int32)) : Int32) H20 _ _ E hsH20).2.2 rfl)
noncomputable def qX1_sort_at32 (b0 : Nat) (x1 : Int32) (x2 : Int32) (x3 : Int32) (h : ea_H) : Option (Unit × ea_H) := gX1_sort_at32 b0 1000000000 0 x1 x2 x3 0 0 0 h
def okX1_sort_at32 (b0 : Nat) (x1 : Int32) (x2 : Int32) (x3 : Int32) (h : ea_H) : Prop := ∃ x, qX1_sort_at32 b0 x1 x2 x3 h = some x
noncomputable def wX1_sort_at32 (b0 : Nat) (x1 : Int32) (x2 : Int32) (x3 : Int32) (h : ea_H) : ea_H := ((qX1_sort_at32 b0 x1 x2 x3 h).getD ((), h)).2
theorem sX1_sort_at32 {d : Nat} {b0 : Nat} {x1 : Int32} {x2 : Int32} {x3 : Int32} {h : ea_H} (hd : 2 ≤ d) (hs : ShC b0 h) (K : okX1_sort_at32 b0 x1 x2 x3 h) : ea_Met mX1_sort d [vR (some (b0 + 32)), vI x1, vI x2, vI x3] h none (wX1_sort_at32 b0 x1 x2 x3 h) := by
  obtain ⟨⟨x, y⟩, K⟩ := K
  unfold wX1_sort_at32
  rw [K]
  unfold qX1_sort_at32 at K
  exact ea_enter rfl (Nat.le_of_ble_eq_true rfl) ((tX1_sort_at32 hd 1000000000 0 x1 x2 x3 0 0 0 h x y K hs).1 rfl)
theorem zX1_sort_at32 {b0 : Nat} : ∀ (f lbl : Nat) (x1 : Int32) (x2 : Int32) (x3 : Int32) (x4 : Int32) (x5 : Int32) (x6 : Int32) (h : ea_H) (r : Unit) (h' : ea_H), gX1_sort_at32 b0 f lbl x1 x2 x3 x4 x5 x6 h = some (r, h') → ShC b0 h → ShC b0 h' := by
  intro f
  induction f with
  | zero => intro lbl x1 x2 x3 x4 x5 x6 h r h' E; cases E
  | succ f ih =>
    intro lbl x1 x2 x3 x4 x5 x6 h r h' E hs
    unfold gX1_sort_at32 at E
    by_cases el0 : lbl = 0
    · have E := (if_pos el0).symm.trans E
      obtain ⟨z1, E⟩ := gd_some E
      by_cases c7 : (x3 + (1 : Int32)) < (ea_i h (b0 + 6) (Int32.toNatClampNeg x2))
      · have E := (if_pos c7).symm.trans E
        obtain ⟨z2, E⟩ := gd_some E
        obtain ⟨z3, E⟩ := gd_some E
        obtain ⟨z4, E⟩ := gd_some E
        obtain ⟨H6, eH6, E⟩ := let_some E
        have hsH6 : ShC b0 H6 := by rw [eH6]; exact (shX3_begin hs)
        exact ih 57 (x1 : Int32) (x2 : Int32) 0 (0 : Int32) 0 0 H6 _ _ E hsH6
      have E := (if_neg c7).symm.trans E
      exact ea_shO E hs
    have E := (if_neg el0).symm.trans E
    by_cases el1 : lbl = 57
    · have E := (if_pos el1).symm.trans E
      obtain ⟨z8, E⟩ := gd_some E
      by_cases c10 : (ea_i h (b0 + 6) (Int32.toNatClampNeg x2)) ≤ x4
      · have E := (if_pos c10).symm.trans E
        exact ea_shO E hs
      have E := (if_neg c10).symm.trans E
      obtain ⟨z9, E⟩ := gd_some E
      exact ih 91 (x1 : Int32) (x2 : Int32) 0 (x4 : Int32) ((ea_i h (b0 + 7) (Int32.toNatClampNeg (((8 : Int32) * x2) + x4))) : Int32) (0 : Int32) h _ _ E hs
    have E := (if_neg el1).symm.trans E
    by_cases el2 : lbl = 91
    · have E := (if_pos el2).symm.trans E
      by_cases c24 : (ea_i h (b0 + 32) 0) ≤ x6
      · have E := (if_pos c24).symm.trans E
        exact ih 57 (x1 : Int32) (x2 : Int32) 0 ((x4 + (1 : Int32)) : Int32) 0 0 h _ _ E hs
      have E := (if_neg c24).symm.trans E
      obtain ⟨z11, E⟩ := gd_some E
      by_cases c23 : (vX1_isAboard_at32 b0 (x6 : Int32) (x1 : Int32) h) = (0 : Int32)
      · have E := (if_pos c23).symm.trans E
        exact ih 91 (x1 : Int32) (x2 : Int32) 0 (x4 : Int32) (x5 : Int32) ((x6 + (1 : Int32)) : Int32) h _ _ E hs
      have E := (if_neg c23).symm.trans E
      obtain ⟨z12, E⟩ := gd_some E
      by_cases c22 : (ea_i h (b0 + 37) (Int32.toNatClampNeg x6)) = (0 : Int32)
      · have E := (if_pos c22).symm.trans E
        obtain ⟨z13, E⟩ := gd_some E
        by_cases c21 : (ea_i h (b0 + 35) (Int32.toNatClampNeg x6)) = x4
        · have E := (if_pos c21).symm.trans E
          obtain ⟨z14, E⟩ := gd_some E
          obtain ⟨H16, eH16, E⟩ := let_some E
          have hsH16 : ShC b0 H16 := by rw [eH16]; exact (shX3_sortsOne hs)
          obtain ⟨z17, E⟩ := gd_some E
          obtain ⟨z19, E⟩ := gd_some E
          obtain ⟨H20, eH20, E⟩ := let_some E
          have hsH20 : ShC b0 H20 := by rw [eH20]; exact (ShC_wi hsH16)
          exact ih 91 (x1 : Int32) (x2 : Int32) 0 (x4 : Int32) (x5 : Int32) ((x6 + (1 : Int32)) : Int32) H20 _ _ E hsH20
        have E := (if_neg c21).symm.trans E
        exact ih 91 (x1 : Int32) (x2 : Int32) 0 (x4 : Int32) (x5 : Int32) ((x6 + (1 : Int32)) : Int32) h _ _ E hs
      have E := (if_neg c22).symm.trans E
      exact ih 91 (x1 : Int32) (x2 : Int32) 0 (x4 : Int32) (x5 : Int32) ((x6 + (1 : Int32)) : Int32) h _ _ E hs
    have E := (if_neg el2).symm.trans E
    cases E
theorem shX1_sort_at32 {b0 : Nat} {x1 : Int32} {x2 : Int32} {x3 : Int32} {h : ea_H} (hs : ShC b0 h) : ShC b0 (wX1_sort_at32 b0 x1 x2 x3 h) := by
  unfold wX1_sort_at32
  cases K : qX1_sort_at32 b0 x1 x2 x3 h with
  | none => exact hs
  | some x => obtain ⟨x, y⟩ := x; unfold qX1_sort_at32 at K; exact zX1_sort_at32 _ _ _ _ _ _ _ _ _ _ _ K hs
noncomputable def gX1_sort_at42 (b0 : Nat) : Nat → Nat → Int32 → Int32 → Int32 → Int32 → Int32 → Int32 → ea_H → Option (Unit × ea_H)
  | 0, _, _, _, _, _, _, _, _ => none
  | f + 1, lbl, x1, x2, x3, x4, x5, x6, h =>
    if lbl = 0 then (gd (vp_in x2 10) (if (x3 + (1 : Int32)) < (ea_i h (b0 + 6) (Int32.toNatClampNeg x2)) then (gd (vp_in ((((8 : Int32) * x2) + x3) + (1 : Int32)) 80) (gd (vp_in (((8 : Int32) * x2) + x3) 80) (gd ((okX3_begin b0 (((ea_i h (b0 + 8) (Int32.toNatClampNeg ((((8 : Int32) * x2) + x3) + (1 : Int32)))) - (ea_i h (b0 + 9) (Int32.toNatClampNeg (((8 : Int32) * x2) + x3)))) : Int32) h)) (ea_let (wX3_begin b0 (((ea_i h (b0 + 8) (Int32.toNatClampNeg ((((8 : Int32) * x2) + x3) + (1 : Int32)))) - (ea_i h (b0 + 9) (Int32.toNatClampNeg (((8 : Int32) * x2) + x3)))) : Int32) h) fun H6 => (gX1_sort_at42 b0 f 57 (x1 : Int32) (x2 : Int32) 0 (0 : Int32) 0 0 H6))))) else (some ((), h)))) else
    if lbl = 57 then (gd (vp_in x2 10) (if (ea_i h (b0 + 6) (Int32.toNatClampNeg x2)) ≤ x4 then (some ((), h)) else (gd (vp_in (((8 : Int32) * x2) + x4) 80) (gX1_sort_at42 b0 f 91 (x1 : Int32) (x2 : Int32) 0 (x4 : Int32) ((ea_i h (b0 + 7) (Int32.toNatClampNeg (((8 : Int32) * x2) + x4))) : Int32) (0 : Int32) h)))) else
    if lbl = 91 then (if (ea_i h (b0 + 42) 0) ≤ x6 then (gX1_sort_at42 b0 f 57 (x1 : Int32) (x2 : Int32) 0 ((x4 + (1 : Int32)) : Int32) 0 0 h) else (gd ((okX1_isAboard_at42 b0 (x6 : Int32) (x1 : Int32) h)) (if (vX1_isAboard_at42 b0 (x6 : Int32) (x1 : Int32) h) = (0 : Int32) then (gX1_sort_at42 b0 f 91 (x1 : Int32) (x2 : Int32) 0 (x4 : Int32) (x5 : Int32) ((x6 + (1 : Int32)) : Int32) h) else (gd (vp_in x6 120) (if (ea_i h (b0 + 47) (Int32.toNatClampNeg x6)) = (0 : Int32) then (gd (vp_in x6 120) (if (ea_i h (b0 + 45) (Int32.toNatClampNeg x6)) = x4 then (gd ((okX3_sortsOne b0 (x2 : Int32) (x5 : Int32) h)) (ea_let (wX3_sortsOne b0 (x2 : Int32) (x5 : Int32) h) fun H16 => (gd (vp_in x6 120) (gd (((vX3_sortsOne b0 (x2 : Int32) (x5 : Int32) h) = 0 ∨ (vX3_sortsOne b0 (x2 : Int32) (x5 : Int32) h) = 1)) (ea_let (ea_wi H16 (b0 + 47) (Int32.toNatClampNeg x6) (vX3_sortsOne b0 (x2 : Int32) (x5 : Int32) h)) fun H20 => (gX1_sort_at42 b0 f 91 (x1 : Int32) (x2 : Int32) 0 (x4 : Int32) (x5 : Int32) ((x6 + (1 : Int32)) : Int32) H20)))))) else (gX1_sort_at42 b0 f 91 (x1 : Int32) (x2 : Int32) 0 (x4 : Int32) (x5 : Int32) ((x6 + (1 : Int32)) : Int32) h))) else (gX1_sort_at42 b0 f 91 (x1 : Int32) (x2 : Int32) 0 (x4 : Int32) (x5 : Int32) ((x6 + (1 : Int32)) : Int32) h)))))) else none
theorem tX1_sort_at42 {d : Nat} {b0 : Nat} {h0 : ea_H} (hd : 2 ≤ d) : ∀ (f lbl : Nat) (x1 : Int32) (x2 : Int32) (x3 : Int32) (x4 : Int32) (x5 : Int32) (x6 : Int32) (h : ea_H) (r : Unit) (h' : ea_H), gX1_sort_at42 b0 f lbl x1 x2 x3 x4 x5 x6 h = some (r, h') → ShC b0 h → (lbl = 0 → ea_W mX1_sort d h0 none h' 0 [(0, vR (some (b0 + 42))), (1, vI x1), (2, vI x2), (3, vI x3)] [] h) ∧ (lbl = 57 → ea_W mX1_sort d h0 none h' 57 [(0, vR (some (b0 + 42))), (1, vI x1), (2, vI x2), (4, vI x4)] [] h) ∧ (lbl = 91 → ea_W mX1_sort d h0 none h' 91 [(0, vR (some (b0 + 42))), (1, vI x1), (2, vI x2), (4, vI x4), (5, vI x5), (6, vI x6)] [] h) := by
  intro f
  induction f with
  | zero => intro lbl x1 x2 x3 x4 x5 x6 h r h' E; cases E
  | succ f ih =>
    intro lbl x1 x2 x3 x4 x5 x6 h r h' E hs
    unfold gX1_sort_at42 at E
    refine ⟨?_, ?_⟩
    · intro el
      subst el
      have E := (if_pos rfl).symm.trans E
      refine ea_iload_n (pc := 0) dX1_sort_0 rfl 3 rfl ?_
      refine ea_iconst (pc := 1) dX1_sort_1 (v := 1) rfl ?_
      refine ea_iadd (pc := 2) dX1_sort_2 ?_
      refine ea_aload_n (pc := 3) dX1_sort_3 rfl 0 rfl ?_
      refine ea_getR (pc := 4) dX1_sort_4 ec_1 (k := 11) (Nat.le_of_ble_eq_true rfl) rfl (Or.inl ew_377) (hs.1 42 (by decide)).1 (hs.1 42 (by decide)).2.1 (hs.2 42 11 rfl) ?_
      refine ea_getR (pc := 7) dX1_sort_7 ec_9 (k := 1) (Nat.le_of_ble_eq_true rfl) rfl (Or.inl ew_182) (hs.1 5 (by decide)).1 (hs.1 5 (by decide)).2.1 (hs.2 5 1 rfl) ?_
      refine ea_iload_n (pc := 10) dX1_sort_10 rfl 2 rfl ?_
      obtain ⟨z1, E⟩ := gd_some E
      refine ea_iald (pc := 11) dX1_sort_11 (hs.1 6 (by decide)).1 (hs.1 6 (by decide)).2.1 (ea_vpl (hs.1 6 (by decide)).2.2 z1) ?_
      refine ea_icmp_lt (pc := 12) (tgt := 16) dX1_sort_12 rfl (fun c7 => ?_) (fun c7 => ?_)
      · have E := (if_pos c7).symm.trans E
        refine ea_aload_n (pc := 16) dX1_sort_16 rfl 0 rfl ?_
        refine ea_getR (pc := 17) dX1_sort_17 ec_1 (k := 13) (Nat.le_of_ble_eq_true rfl) rfl (Or.inl ew_379) (hs.1 42 (by decide)).1 (hs.1 42 (by decide)).2.1 (hs.2 42 13 rfl) ?_
        refine ea_aload_n (pc := 20) dX1_sort_20 rfl 0 rfl ?_
        refine ea_getR (pc := 21) dX1_sort_21 ec_1 (k := 11) (Nat.le_of_ble_eq_true rfl) rfl (Or.inl ew_377) (hs.1 42 (by decide)).1 (hs.1 42 (by decide)).2.1 (hs.2 42 11 rfl) ?_
        refine ea_getR (pc := 24) dX1_sort_24 ec_9 (k := 3) (Nat.le_of_ble_eq_true rfl) rfl (Or.inl ew_190) (hs.1 5 (by decide)).1 (hs.1 5 (by decide)).2.1 (hs.2 5 3 rfl) ?_
        refine ea_bipush (pc := 27) dX1_sort_27 (v := 8) rfl ?_
        refine ea_iload_n (pc := 29) dX1_sort_29 rfl 2 rfl ?_
        refine ea_imul (pc := 30) dX1_sort_30 ?_
        refine ea_iload_n (pc := 31) dX1_sort_31 rfl 3 rfl ?_
        refine ea_iadd (pc := 32) dX1_sort_32 ?_
        refine ea_iconst (pc := 33) dX1_sort_33 (v := 1) rfl ?_
        refine ea_iadd (pc := 34) dX1_sort_34 ?_
        obtain ⟨z2, E⟩ := gd_some E
        refine ea_iald (pc := 35) dX1_sort_35 (hs.1 8 (by decide)).1 (hs.1 8 (by decide)).2.1 (ea_vpl (hs.1 8 (by decide)).2.2 z2) ?_
        refine ea_aload_n (pc := 36) dX1_sort_36 rfl 0 rfl ?_
        refine ea_getR (pc := 37) dX1_sort_37 ec_1 (k := 11) (Nat.le_of_ble_eq_true rfl) rfl (Or.inl ew_377) (hs.1 42 (by decide)).1 (hs.1 42 (by decide)).2.1 (hs.2 42 11 rfl) ?_
        refine ea_getR (pc := 40) dX1_sort_40 ec_9 (k := 4) (Nat.le_of_ble_eq_true rfl) rfl (Or.inl ew_193) (hs.1 5 (by decide)).1 (hs.1 5 (by decide)).2.1 (hs.2 5 4 rfl) ?_
        refine ea_bipush (pc := 43) dX1_sort_43 (v := 8) rfl ?_
        refine ea_iload_n (pc := 45) dX1_sort_45 rfl 2 rfl ?_
        refine ea_imul (pc := 46) dX1_sort_46 ?_
        refine ea_iload_n (pc := 47) dX1_sort_47 rfl 3 rfl ?_
        refine ea_iadd (pc := 48) dX1_sort_48 ?_
        obtain ⟨z3, E⟩ := gd_some E
        refine ea_iald (pc := 49) dX1_sort_49 (hs.1 9 (by decide)).1 (hs.1 9 (by decide)).2.1 (ea_vpl (hs.1 9 (by decide)).2.2 z3) ?_
        refine ea_isub (pc := 50) dX1_sort_50 ?_
        obtain ⟨z4, E⟩ := gd_some E
        refine ea_callV (pc := 51) (d' := d - 1) (As := [vI ((ea_i h (b0 + 8) (Int32.toNatClampNeg ((((8 : Int32) * x2) + x3) + (1 : Int32)))) - (ea_i h (b0 + 9) (Int32.toNatClampNeg (((8 : Int32) * x2) + x3))))]) (st := []) dX1_sort_51 kX3_begin (sX3_begin (d := d - 1) (by omega) hs z4) (by omega) rfl (Nat.le_of_ble_eq_true rfl) ew_700 ew_701 ew_702 (ci := 3) rfl (by decide) (hs.1 16 (by decide)).1 (hs.1 16 (by decide)).2.1 ?_
        have hs5 : ShC b0 (wX3_begin b0 (((ea_i h (b0 + 8) (Int32.toNatClampNeg ((((8 : Int32) * x2) + x3) + (1 : Int32)))) - (ea_i h (b0 + 9) (Int32.toNatClampNeg (((8 : Int32) * x2) + x3)))) : Int32) h) := shX3_begin hs
        obtain ⟨H6, eH6, E⟩ := let_some E
        refine ea_nm eH6 ?_
        have hsH6 : ShC b0 H6 := by rw [eH6]; exact hs5
        refine ea_iconst (pc := 54) dX1_sort_54 (v := 0) rfl ?_
        refine ea_istore (pc := 55) (lv' := [(0, vR (some (b0 + 42))), (1, vI x1), (2, vI x2), (4, vI 0)]) dX1_sort_55 (Nat.le_of_ble_eq_true rfl) [1, 2, 3, 0] rfl ?_
        exact ((ih 57 (x1 : Int32) (x2 : Int32) 0 (0 : Int32) 0 0 H6 _ _ E hsH6).2.1 rfl)
      · have E := (if_neg c7).symm.trans E
        exact ea_vretO (pc := 15) dX1_sort_15 rfl E
    refine ⟨?_, ?_⟩
    · intro el
      subst el
      have E := (if_neg (by decide)).symm.trans E
      have E := (if_pos rfl).symm.trans E
      refine ea_iload (pc := 57) dX1_sort_57 3 rfl ?_
      refine ea_aload_n (pc := 59) dX1_sort_59 rfl 0 rfl ?_
      refine ea_getR (pc := 60) dX1_sort_60 ec_1 (k := 11) (Nat.le_of_ble_eq_true rfl) rfl (Or.inl ew_377) (hs.1 42 (by decide)).1 (hs.1 42 (by decide)).2.1 (hs.2 42 11 rfl) ?_
      refine ea_getR (pc := 63) dX1_sort_63 ec_9 (k := 1) (Nat.le_of_ble_eq_true rfl) rfl (Or.inl ew_182) (hs.1 5 (by decide)).1 (hs.1 5 (by decide)).2.1 (hs.2 5 1 rfl) ?_
      refine ea_iload_n (pc := 66) dX1_sort_66 rfl 2 rfl ?_
      obtain ⟨z8, E⟩ := gd_some E
      refine ea_iald (pc := 67) dX1_sort_67 (hs.1 6 (by decide)).1 (hs.1 6 (by decide)).2.1 (ea_vpl (hs.1 6 (by decide)).2.2 z8) ?_
      refine ea_icmp_ge (pc := 68) (tgt := 161) dX1_sort_68 rfl (fun c10 => ?_) (fun c10 => ?_)
      · have E := (if_pos c10).symm.trans E
        exact ea_vretO (pc := 161) dX1_sort_161 rfl E
      · have E := (if_neg c10).symm.trans E
        refine ea_aload_n (pc := 71) dX1_sort_71 rfl 0 rfl ?_
        refine ea_getR (pc := 72) dX1_sort_72 ec_1 (k := 11) (Nat.le_of_ble_eq_true rfl) rfl (Or.inl ew_377) (hs.1 42 (by decide)).1 (hs.1 42 (by decide)).2.1 (hs.2 42 11 rfl) ?_
        refine ea_getR (pc := 75) dX1_sort_75 ec_9 (k := 2) (Nat.le_of_ble_eq_true rfl) rfl (Or.inl ew_186) (hs.1 5 (by decide)).1 (hs.1 5 (by decide)).2.1 (hs.2 5 2 rfl) ?_
        refine ea_bipush (pc := 78) dX1_sort_78 (v := 8) rfl ?_
        refine ea_iload_n (pc := 80) dX1_sort_80 rfl 2 rfl ?_
        refine ea_imul (pc := 81) dX1_sort_81 ?_
        refine ea_iload (pc := 82) dX1_sort_82 3 rfl ?_
        refine ea_iadd (pc := 84) dX1_sort_84 ?_
        obtain ⟨z9, E⟩ := gd_some E
        refine ea_iald (pc := 85) dX1_sort_85 (hs.1 7 (by decide)).1 (hs.1 7 (by decide)).2.1 (ea_vpl (hs.1 7 (by decide)).2.2 z9) ?_
        refine ea_istore (pc := 86) (lv' := [(0, vR (some (b0 + 42))), (1, vI x1), (2, vI x2), (4, vI x4), (5, vI (ea_i h (b0 + 7) (Int32.toNatClampNeg (((8 : Int32) * x2) + x4))))]) dX1_sort_86 (Nat.le_of_ble_eq_true rfl) [1, 2, 3, 4, 0] rfl ?_
        refine ea_iconst (pc := 88) dX1_sort_88 (v := 0) rfl ?_
        refine ea_istore (pc := 89) (lv' := [(0, vR (some (b0 + 42))), (1, vI x1), (2, vI x2), (4, vI x4), (5, vI (ea_i h (b0 + 7) (Int32.toNatClampNeg (((8 : Int32) * x2) + x4)))), (6, vI 0)]) dX1_sort_89 (Nat.le_of_ble_eq_true rfl) [1, 2, 3, 4, 5, 0] rfl ?_
        exact ((ih 91 (x1 : Int32) (x2 : Int32) 0 (x4 : Int32) ((ea_i h (b0 + 7) (Int32.toNatClampNeg (((8 : Int32) * x2) + x4))) : Int32) (0 : Int32) h _ _ E hs).2.2 rfl)
    intro el
    subst el
    have E := (if_neg (by decide)).symm.trans E
    have E := (if_neg (by decide)).symm.trans E
    have E := (if_pos rfl).symm.trans E
    refine ea_iload (pc := 91) dX1_sort_91 5 rfl ?_
    refine ea_aload_n (pc := 93) dX1_sort_93 rfl 0 rfl ?_
    refine ea_getI (pc := 94) dX1_sort_94 ec_1 (k := 0) (Nat.le_of_ble_eq_true rfl) rfl (Or.inl ew_359) (hs.1 42 (by decide)).1 (hs.1 42 (by decide)).2.1 ?_
    refine ea_icmp_ge (pc := 97) (tgt := 155) dX1_sort_97 rfl (fun c24 => ?_) (fun c24 => ?_)
    · have E := (if_pos c24).symm.trans E
      refine ea_iinc (pc := 155) (v := 1) (lv' := [(0, vR (some (b0 + 42))), (1, vI x1), (2, vI x2), (4, vI (x4 + (1 : Int32)))]) dX1_sort_155 3 rfl rfl (Nat.le_of_ble_eq_true rfl) [1, 2, 3, 0] rfl ?_
      refine ea_goto (pc := 158) (tgt := 57) dX1_sort_158 rfl ?_
      exact ((ih 57 (x1 : Int32) (x2 : Int32) 0 ((x4 + (1 : Int32)) : Int32) 0 0 h _ _ E hs).2.1 rfl)
    · have E := (if_neg c24).symm.trans E
      refine ea_aload_n (pc := 100) dX1_sort_100 rfl 0 rfl ?_
      refine ea_iload (pc := 101) dX1_sort_101 5 rfl ?_
      refine ea_iload_n (pc := 103) dX1_sort_103 rfl 1 rfl ?_
      obtain ⟨z11, E⟩ := gd_some E
      refine ea_callV (pc := 104) (d' := d - 1) (As := [vI x6, vI x1]) (st := []) dX1_sort_104 kX1_isAboard (sX1_isAboard_at42 (d := d - 1) (by omega) hs z11) (by omega) rfl (Nat.le_of_ble_eq_true rfl) ew_704 ew_705 ew_706 (ci := 1) rfl (by decide) (hs.1 42 (by decide)).1 (hs.1 42 (by decide)).2.1 ?_
      refine ea_if_eq (pc := 107) (tgt := 149) dX1_sort_107 rfl (fun c23 => ?_) (fun c23 => ?_)
      · have E := (if_pos c23).symm.trans E
        refine ea_iinc (pc := 149) (v := 1) (lv' := [(0, vR (some (b0 + 42))), (1, vI x1), (2, vI x2), (4, vI x4), (5, vI x5), (6, vI (x6 + (1 : Int32)))]) dX1_sort_149 5 rfl rfl (Nat.le_of_ble_eq_true rfl) [1, 2, 3, 4, 5, 0] rfl ?_
        refine ea_goto (pc := 152) (tgt := 91) dX1_sort_152 rfl ?_
        exact ((ih 91 (x1 : Int32) (x2 : Int32) 0 (x4 : Int32) (x5 : Int32) ((x6 + (1 : Int32)) : Int32) h _ _ E hs).2.2 rfl)
      · have E := (if_neg c23).symm.trans E
        refine ea_aload_n (pc := 110) dX1_sort_110 rfl 0 rfl ?_
        refine ea_getR (pc := 111) dX1_sort_111 ec_1 (k := 5) (Nat.le_of_ble_eq_true rfl) rfl (Or.inl ew_369) (hs.1 42 (by decide)).1 (hs.1 42 (by decide)).2.1 (hs.2 42 5 rfl) ?_
        refine ea_iload (pc := 114) dX1_sort_114 5 rfl ?_
        obtain ⟨z12, E⟩ := gd_some E
        refine ea_zald (pc := 116) dX1_sort_116 (hs.1 47 (by decide)).1 (hs.1 47 (by decide)).2.1 (ea_vpl (hs.1 47 (by decide)).2.2 z12) ?_
        refine ea_if_ne (pc := 117) (tgt := 149) dX1_sort_117 rfl (fun c22 => ?_) (fun c22 => ?_)
        · have E := (if_neg c22).symm.trans E
          refine ea_iinc (pc := 149) (v := 1) (lv' := [(0, vR (some (b0 + 42))), (1, vI x1), (2, vI x2), (4, vI x4), (5, vI x5), (6, vI (x6 + (1 : Int32)))]) dX1_sort_149 5 rfl rfl (Nat.le_of_ble_eq_true rfl) [1, 2, 3, 4, 5, 0] rfl ?_
          refine ea_goto (pc := 152) (tgt := 91) dX1_sort_152 rfl ?_
          exact ((ih 91 (x1 : Int32) (x2 : Int32) 0 (x4 : Int32) (x5 : Int32) ((x6 + (1 : Int32)) : Int32) h _ _ E hs).2.2 rfl)
        · have E := (if_pos c22).symm.trans E
          refine ea_aload_n (pc := 120) dX1_sort_120 rfl 0 rfl ?_
          refine ea_getR (pc := 121) dX1_sort_121 ec_1 (k := 3) (Nat.le_of_ble_eq_true rfl) rfl (Or.inl ew_365) (hs.1 42 (by decide)).1 (hs.1 42 (by decide)).2.1 (hs.2 42 3 rfl) ?_
          refine ea_iload (pc := 124) dX1_sort_124 5 rfl ?_
          obtain ⟨z13, E⟩ := gd_some E
          refine ea_iald (pc := 126) dX1_sort_126 (hs.1 45 (by decide)).1 (hs.1 45 (by decide)).2.1 (ea_vpl (hs.1 45 (by decide)).2.2 z13) ?_
          refine ea_iload (pc := 127) dX1_sort_127 3 rfl ?_
          refine ea_icmp_ne (pc := 129) (tgt := 149) dX1_sort_129 rfl (fun c21 => ?_) (fun c21 => ?_)
          · have E := (if_neg c21).symm.trans E
            refine ea_iinc (pc := 149) (v := 1) (lv' := [(0, vR (some (b0 + 42))), (1, vI x1), (2, vI x2), (4, vI x4), (5, vI x5), (6, vI (x6 + (1 : Int32)))]) dX1_sort_149 5 rfl rfl (Nat.le_of_ble_eq_true rfl) [1, 2, 3, 4, 5, 0] rfl ?_
            refine ea_goto (pc := 152) (tgt := 91) dX1_sort_152 rfl ?_
            exact ((ih 91 (x1 : Int32) (x2 : Int32) 0 (x4 : Int32) (x5 : Int32) ((x6 + (1 : Int32)) : Int32) h _ _ E hs).2.2 rfl)
          · have E := (if_pos c21).symm.trans E
            refine ea_aload_n (pc := 132) dX1_sort_132 rfl 0 rfl ?_
            refine ea_getR (pc := 133) dX1_sort_133 ec_1 (k := 5) (Nat.le_of_ble_eq_true rfl) rfl (Or.inl ew_369) (hs.1 42 (by decide)).1 (hs.1 42 (by decide)).2.1 (hs.2 42 5 rfl) ?_
            refine ea_iload (pc := 136) dX1_sort_136 5 rfl ?_
            refine ea_aload_n (pc := 138) dX1_sort_138 rfl 0 rfl ?_
            refine ea_getR (pc := 139) dX1_sort_139 ec_1 (k := 13) (Nat.le_of_ble_eq_true rfl) rfl (Or.inl ew_379) (hs.1 42 (by decide)).1 (hs.1 42 (by decide)).2.1 (hs.2 42 13 rfl) ?_
            refine ea_iload_n (pc := 142) dX1_sort_142 rfl 2 rfl ?_
            refine ea_iload (pc := 143) dX1_sort_143 4 rfl ?_
            obtain ⟨z14, E⟩ := gd_some E
            refine ea_callV (pc := 145) (d' := d - 1) (As := [vI x2, vI x5]) (st := [vI x6, vR (some (b0 + 47))]) dX1_sort_145 kX3_sortsOne (sX3_sortsOne (d := d - 1) (by omega) hs z14) (by omega) rfl (Nat.le_of_ble_eq_true rfl) ew_708 ew_709 ew_710 (ci := 3) rfl (by decide) (hs.1 16 (by decide)).1 (hs.1 16 (by decide)).2.1 ?_
            have hs15 : ShC b0 (wX3_sortsOne b0 (x2 : Int32) (x5 : Int32) h) := shX3_sortsOne hs
            obtain ⟨H16, eH16, E⟩ := let_some E
            refine ea_nm eH16 ?_
            have hsH16 : ShC b0 H16 := by rw [eH16]; exact hs15
            obtain ⟨z17, E⟩ := gd_some E
            obtain ⟨z19, E⟩ := gd_some E
            refine ea_zast (pc := 148) dX1_sort_148 (y := (vX3_sortsOne b0 (x2 : Int32) (x5 : Int32) h)) (ea_bn z19) (hsH16.1 47 (by decide)).1 (hsH16.1 47 (by decide)).2.1 (ea_vpl (hsH16.1 47 (by decide)).2.2 z17) ?_
            have hs18 : ShC b0 (ea_wi H16 (b0 + 47) (Int32.toNatClampNeg x6) (vX3_sortsOne b0 (x2 : Int32) (x5 : Int32) h)) := ShC_wi hsH16
            obtain ⟨H20, eH20, E⟩ := let_some E
            refine ea_nm eH20 ?_
            have hsH20 : ShC b0 H20 := by rw [eH20]; exact hs18
            refine ea_iinc (pc := 149) (v := 1) (lv' := [(0, vR (some (b0 + 42))), (1, vI x1), (2, vI x2), (4, vI x4), (5, vI x5), (6, vI (x6 + (1 : Int32)))]) dX1_sort_149 5 rfl rfl (Nat.le_of_ble_eq_true rfl) [1, 2, 3, 4, 5, 0] rfl ?_
            refine ea_goto (pc := 152) (tgt := 91) dX1_sort_152 rfl ?_
            exact ((ih 91 (x1 : Int32) (x2 : Int32) 0 (x4 : Int32) (x5 : Int32) ((x6 + (1 : Int32)) : Int32) H20 _ _ E hsH20).2.2 rfl)
noncomputable def qX1_sort_at42 (b0 : Nat) (x1 : Int32) (x2 : Int32) (x3 : Int32) (h : ea_H) : Option (Unit × ea_H) := gX1_sort_at42 b0 1000000000 0 x1 x2 x3 0 0 0 h
def okX1_sort_at42 (b0 : Nat) (x1 : Int32) (x2 : Int32) (x3 : Int32) (h : ea_H) : Prop := ∃ x, qX1_sort_at42 b0 x1 x2 x3 h = some x
noncomputable def wX1_sort_at42 (b0 : Nat) (x1 : Int32) (x2 : Int32) (x3 : Int32) (h : ea_H) : ea_H := ((qX1_sort_at42 b0 x1 x2 x3 h).getD ((), h)).2
theorem sX1_sort_at42 {d : Nat} {b0 : Nat} {x1 : Int32} {x2 : Int32} {x3 : Int32} {h : ea_H} (hd : 2 ≤ d) (hs : ShC b0 h) (K : okX1_sort_at42 b0 x1 x2 x3 h) : ea_Met mX1_sort d [vR (some (b0 + 42)), vI x1, vI x2, vI x3] h none (wX1_sort_at42 b0 x1 x2 x3 h) := by
  obtain ⟨⟨x, y⟩, K⟩ := K
  unfold wX1_sort_at42
  rw [K]
  unfold qX1_sort_at42 at K
  exact ea_enter rfl (Nat.le_of_ble_eq_true rfl) ((tX1_sort_at42 hd 1000000000 0 x1 x2 x3 0 0 0 h x y K hs).1 rfl)
theorem zX1_sort_at42 {b0 : Nat} : ∀ (f lbl : Nat) (x1 : Int32) (x2 : Int32) (x3 : Int32) (x4 : Int32) (x5 : Int32) (x6 : Int32) (h : ea_H) (r : Unit) (h' : ea_H), gX1_sort_at42 b0 f lbl x1 x2 x3 x4 x5 x6 h = some (r, h') → ShC b0 h → ShC b0 h' := by
  intro f
  induction f with
  | zero => intro lbl x1 x2 x3 x4 x5 x6 h r h' E; cases E
  | succ f ih =>
    intro lbl x1 x2 x3 x4 x5 x6 h r h' E hs
    unfold gX1_sort_at42 at E
    by_cases el0 : lbl = 0
    · have E := (if_pos el0).symm.trans E
      obtain ⟨z1, E⟩ := gd_some E
      by_cases c7 : (x3 + (1 : Int32)) < (ea_i h (b0 + 6) (Int32.toNatClampNeg x2))
      · have E := (if_pos c7).symm.trans E
        obtain ⟨z2, E⟩ := gd_some E
        obtain ⟨z3, E⟩ := gd_some E
        obtain ⟨z4, E⟩ := gd_some E
        obtain ⟨H6, eH6, E⟩ := let_some E
        have hsH6 : ShC b0 H6 := by rw [eH6]; exact (shX3_begin hs)
        exact ih 57 (x1 : Int32) (x2 : Int32) 0 (0 : Int32) 0 0 H6 _ _ E hsH6
      have E := (if_neg c7).symm.trans E
      exact ea_shO E hs
    have E := (if_neg el0).symm.trans E
    by_cases el1 : lbl = 57
    · have E := (if_pos el1).symm.trans E
      obtain ⟨z8, E⟩ := gd_some E
      by_cases c10 : (ea_i h (b0 + 6) (Int32.toNatClampNeg x2)) ≤ x4
      · have E := (if_pos c10).symm.trans E
        exact ea_shO E hs
      have E := (if_neg c10).symm.trans E
      obtain ⟨z9, E⟩ := gd_some E
      exact ih 91 (x1 : Int32) (x2 : Int32) 0 (x4 : Int32) ((ea_i h (b0 + 7) (Int32.toNatClampNeg (((8 : Int32) * x2) + x4))) : Int32) (0 : Int32) h _ _ E hs
    have E := (if_neg el1).symm.trans E
    by_cases el2 : lbl = 91
    · have E := (if_pos el2).symm.trans E
      by_cases c24 : (ea_i h (b0 + 42) 0) ≤ x6
      · have E := (if_pos c24).symm.trans E
        exact ih 57 (x1 : Int32) (x2 : Int32) 0 ((x4 + (1 : Int32)) : Int32) 0 0 h _ _ E hs
      have E := (if_neg c24).symm.trans E
      obtain ⟨z11, E⟩ := gd_some E
      by_cases c23 : (vX1_isAboard_at42 b0 (x6 : Int32) (x1 : Int32) h) = (0 : Int32)
      · have E := (if_pos c23).symm.trans E
        exact ih 91 (x1 : Int32) (x2 : Int32) 0 (x4 : Int32) (x5 : Int32) ((x6 + (1 : Int32)) : Int32) h _ _ E hs
      have E := (if_neg c23).symm.trans E
      obtain ⟨z12, E⟩ := gd_some E
      by_cases c22 : (ea_i h (b0 + 47) (Int32.toNatClampNeg x6)) = (0 : Int32)
      · have E := (if_pos c22).symm.trans E
        obtain ⟨z13, E⟩ := gd_some E
        by_cases c21 : (ea_i h (b0 + 45) (Int32.toNatClampNeg x6)) = x4
        · have E := (if_pos c21).symm.trans E
          obtain ⟨z14, E⟩ := gd_some E
          obtain ⟨H16, eH16, E⟩ := let_some E
          have hsH16 : ShC b0 H16 := by rw [eH16]; exact (shX3_sortsOne hs)
          obtain ⟨z17, E⟩ := gd_some E
          obtain ⟨z19, E⟩ := gd_some E
          obtain ⟨H20, eH20, E⟩ := let_some E
          have hsH20 : ShC b0 H20 := by rw [eH20]; exact (ShC_wi hsH16)
          exact ih 91 (x1 : Int32) (x2 : Int32) 0 (x4 : Int32) (x5 : Int32) ((x6 + (1 : Int32)) : Int32) H20 _ _ E hsH20
        have E := (if_neg c21).symm.trans E
        exact ih 91 (x1 : Int32) (x2 : Int32) 0 (x4 : Int32) (x5 : Int32) ((x6 + (1 : Int32)) : Int32) h _ _ E hs
      have E := (if_neg c22).symm.trans E
      exact ih 91 (x1 : Int32) (x2 : Int32) 0 (x4 : Int32) (x5 : Int32) ((x6 + (1 : Int32)) : Int32) h _ _ E hs
    have E := (if_neg el2).symm.trans E
    cases E
theorem shX1_sort_at42 {b0 : Nat} {x1 : Int32} {x2 : Int32} {x3 : Int32} {h : ea_H} (hs : ShC b0 h) : ShC b0 (wX1_sort_at42 b0 x1 x2 x3 h) := by
  unfold wX1_sort_at42
  cases K : qX1_sort_at42 b0 x1 x2 x3 h with
  | none => exact hs
  | some x => obtain ⟨x, y⟩ := x; unfold qX1_sort_at42 at K; exact zX1_sort_at42 _ _ _ _ _ _ _ _ _ _ _ K hs
noncomputable def gX4_note (b0 : Nat) (a0 : Nat) : Nat → Nat → Int32 → Int32 → Int32 → ea_H → Option (Unit × ea_H)
  | 0, _, _, _, _, _ => none
  | f + 1, lbl, x1, x2, x3, h =>
    if lbl = 0 then (gd ((a0 < ea_n h ∧ ea_c h a0 = 4)) (gd ((a0 < ea_n h ∧ ea_c h a0 = 4)) (gd ((ea_r h a0 17) = some (Option.getD (ea_r h a0 17) 0)) (gd (((Option.getD (ea_r h a0 17) 0) < ea_n h ∧ ea_c h (Option.getD (ea_r h a0 17) 0) = 20)) (if (ea_i h a0 16) < (Int32.ofNat (ea_l h (Option.getD (ea_r h a0 17) 0))) then (gX4_note b0 a0 f 30 (x1 : Int32) (x2 : Int32) (x3 : Int32) h) else (gd ((a0 < ea_n h ∧ ea_c h a0 = 4)) (gd ((a0 < ea_n h ∧ ea_c h a0 = 4)) (gd ((ea_r h a0 17) = some (Option.getD (ea_r h a0 17) 0)) (gd (((Option.getD (ea_r h a0 17) 0) < ea_n h ∧ ea_c h (Option.getD (ea_r h a0 17) 0) = 20)) (gd ((okJ7_copyOf_59c91 ((ea_r h a0 17) : Option Nat) (((2 : Int32) * (Int32.ofNat (ea_l h (Option.getD (ea_r h a0 17) 0)))) : Int32) h)) (ea_let (wJ7_copyOf_59c91 ((ea_r h a0 17) : Option Nat) (((2 : Int32) * (Int32.ofNat (ea_l h (Option.getD (ea_r h a0 17) 0)))) : Int32) h) fun H11 => (gd ((a0 < ea_n H11 ∧ ea_c H11 a0 = 4)) (gd (ShC_far b0 a0) (ea_let (ShC_wd b0 H11 a0 17 (vJ7_copyOf_59c91 ((ea_r h a0 17) : Option Nat) (((2 : Int32) * (Int32.ofNat (ea_l h (Option.getD (ea_r h a0 17) 0)))) : Int32) h)) fun H15 => (gX4_note b0 a0 f 30 (x1 : Int32) (x2 : Int32) (x3 : Int32) H15))))))))))))))) else
    if lbl = 30 then (gd ((a0 < ea_n h ∧ ea_c h a0 = 4)) (gd ((a0 < ea_n h ∧ ea_c h a0 = 4)) (gd ((ea_r h a0 17) = some (Option.getD (ea_r h a0 17) 0)) (gd (((Option.getD (ea_r h a0 17) 0) < ea_n h ∧ ea_c h (Option.getD (ea_r h a0 17) 0) = 20)) (gd (vp_in (ea_i h a0 16) (ea_l h (Option.getD (ea_r h a0 17) 0))) (ea_let (ea_wi h (Option.getD (ea_r h a0 17) 0) (Int32.toNatClampNeg (ea_i h a0 16)) (((x1 <<< ((10 : Int32) &&& 31)) ||| (x2 <<< ((7 : Int32) &&& 31))) ||| x3)) fun H23 => (gd ((a0 < ea_n H23 ∧ ea_c H23 a0 = 4)) (gd ((a0 < ea_n H23 ∧ ea_c H23 a0 = 4)) (ea_let (ea_wi H23 a0 16 ((ea_i H23 a0 16) + (1 : Int32))) fun H27 => (some ((), H27))))))))))) else none
theorem tX4_note {d : Nat} {b0 : Nat} {a0 : Nat} {h0 : ea_H} (hd : 3 ≤ d) : ∀ (f lbl : Nat) (x1 : Int32) (x2 : Int32) (x3 : Int32) (h : ea_H) (r : Unit) (h' : ea_H), gX4_note b0 a0 f lbl x1 x2 x3 h = some (r, h') → ShC b0 h → (lbl = 0 → ea_W mX4_note d h0 none h' 0 [(0, vR (some a0)), (1, vI x1), (2, vI x2), (3, vI x3)] [] h) ∧ (lbl = 30 → ea_W mX4_note d h0 none h' 30 [(0, vR (some a0)), (1, vI x1), (2, vI x2), (3, vI x3)] [] h) := by
  intro f
  induction f with
  | zero => intro lbl x1 x2 x3 h r h' E; cases E
  | succ f ih =>
    intro lbl x1 x2 x3 h r h' E hs
    unfold gX4_note at E
    refine ⟨?_, ?_⟩
    · intro el
      subst el
      have E := (if_pos rfl).symm.trans E
      refine ea_aload_n (pc := 0) dX4_note_0 rfl 0 rfl ?_
      obtain ⟨f1, E⟩ := gd_some E
      refine ea_getI (pc := 1) dX4_note_1 ec_4 (k := 16) (Nat.le_of_ble_eq_true rfl) rfl (Or.inl ew_974) f1.1 f1.2 ?_
      refine ea_aload_n (pc := 4) dX4_note_4 rfl 0 rfl ?_
      obtain ⟨f2, E⟩ := gd_some E
      refine ea_getR (pc := 5) dX4_note_5 ec_4 (k := 17) (Nat.le_of_ble_eq_true rfl) rfl (Or.inl ew_976) f2.1 f2.2 rfl ?_
      obtain ⟨e3, E⟩ := gd_some E
      obtain ⟨f4, E⟩ := gd_some E
      refine ea_deref0 e3 ?_
      refine ea_alen (pc := 8) dX4_note_8 f4.1 f4.2 (by decide) (by decide) ?_
      refine ea_icmp_lt (pc := 9) (tgt := 30) dX4_note_9 rfl (fun c16 => ?_) (fun c16 => ?_)
      · have E := (if_pos c16).symm.trans E
        exact ((ih 30 (x1 : Int32) (x2 : Int32) (x3 : Int32) h _ _ E hs).2 rfl)
      · have E := (if_neg c16).symm.trans E
        refine ea_aload_n (pc := 12) dX4_note_12 rfl 0 rfl ?_
        refine ea_aload_n (pc := 13) dX4_note_13 rfl 0 rfl ?_
        obtain ⟨f5, E⟩ := gd_some E
        refine ea_getR (pc := 14) dX4_note_14 ec_4 (k := 17) (Nat.le_of_ble_eq_true rfl) rfl (Or.inl ew_976) f5.1 f5.2 rfl ?_
        refine ea_iconst (pc := 17) dX4_note_17 (v := 2) rfl ?_
        refine ea_aload_n (pc := 18) dX4_note_18 rfl 0 rfl ?_
        obtain ⟨f6, E⟩ := gd_some E
        refine ea_getR (pc := 19) dX4_note_19 ec_4 (k := 17) (Nat.le_of_ble_eq_true rfl) rfl (Or.inl ew_976) f6.1 f6.2 rfl ?_
        obtain ⟨e7, E⟩ := gd_some E
        obtain ⟨f8, E⟩ := gd_some E
        refine ea_deref0 e7 ?_
        refine ea_alen (pc := 22) dX4_note_22 f8.1 f8.2 (by decide) (by decide) ?_
        refine ea_imul (pc := 23) dX4_note_23 ?_
        obtain ⟨z9, E⟩ := gd_some E
        refine ea_callS (pc := 24) (d' := d - 1) (As := [vR (ea_r h a0 17), vI ((2 : Int32) * (Int32.ofNat (ea_l h (Option.getD (ea_r h a0 17) 0))))]) (st := [vR (some a0)]) dX4_note_24 kJ7_copyOf_59c91 (sJ7_copyOf_59c91 (d := d - 1) (by omega) z9) (by omega) rfl (Nat.le_of_ble_eq_true rfl) ew_653 ew_654 ?_
        have hs10 : ShC b0 (wJ7_copyOf_59c91 ((ea_r h a0 17) : Option Nat) (((2 : Int32) * (Int32.ofNat (ea_l h (Option.getD (ea_r h a0 17) 0)))) : Int32) h) := shJ7_copyOf_59c91 hs
        obtain ⟨H11, eH11, E⟩ := let_some E
        refine ea_nm eH11 ?_
        have hsH11 : ShC b0 H11 := by rw [eH11]; exact hs10
        obtain ⟨f12, E⟩ := gd_some E
        obtain ⟨zf14, E⟩ := gd_some E
        refine ea_putR (pc := 27) dX4_note_27 ec_4 (k := 17) (Nat.le_of_ble_eq_true rfl) rfl (Or.inl ⟨rfl, Or.inl ew_976⟩) f12.1 f12.2 ?_
        refine ea_nm (ShC_wdeq zf14) ?_
        have hs13 : ShC b0 (ShC_wd b0 H11 a0 17 (vJ7_copyOf_59c91 ((ea_r h a0 17) : Option Nat) (((2 : Int32) * (Int32.ofNat (ea_l h (Option.getD (ea_r h a0 17) 0)))) : Int32) h)) := ShC_wd_sh hsH11
        obtain ⟨H15, eH15, E⟩ := let_some E
        refine ea_nm eH15 ?_
        have hsH15 : ShC b0 H15 := by rw [eH15]; exact hs13
        exact ((ih 30 (x1 : Int32) (x2 : Int32) (x3 : Int32) H15 _ _ E hsH15).2 rfl)
    intro el
    subst el
    have E := (if_neg (by decide)).symm.trans E
    have E := (if_pos rfl).symm.trans E
    refine ea_aload_n (pc := 30) dX4_note_30 rfl 0 rfl ?_
    obtain ⟨f17, E⟩ := gd_some E
    refine ea_getR (pc := 31) dX4_note_31 ec_4 (k := 17) (Nat.le_of_ble_eq_true rfl) rfl (Or.inl ew_976) f17.1 f17.2 rfl ?_
    refine ea_aload_n (pc := 34) dX4_note_34 rfl 0 rfl ?_
    obtain ⟨f18, E⟩ := gd_some E
    refine ea_getI (pc := 35) dX4_note_35 ec_4 (k := 16) (Nat.le_of_ble_eq_true rfl) rfl (Or.inl ew_974) f18.1 f18.2 ?_
    refine ea_iload_n (pc := 38) dX4_note_38 rfl 1 rfl ?_
    refine ea_bipush (pc := 39) dX4_note_39 (v := 10) rfl ?_
    refine ea_ishl (pc := 41) dX4_note_41 ?_
    refine ea_iload_n (pc := 42) dX4_note_42 rfl 2 rfl ?_
    refine ea_bipush (pc := 43) dX4_note_43 (v := 7) rfl ?_
    refine ea_ishl (pc := 45) dX4_note_45 ?_
    refine ea_ior (pc := 46) dX4_note_46 ?_
    refine ea_iload_n (pc := 47) dX4_note_47 rfl 3 rfl ?_
    refine ea_ior (pc := 48) dX4_note_48 ?_
    obtain ⟨e19, E⟩ := gd_some E
    obtain ⟨f20, E⟩ := gd_some E
    obtain ⟨z21, E⟩ := gd_some E
    refine ea_deref2 e19 ?_
    refine ea_iast (pc := 49) dX4_note_49 f20.1 f20.2 z21 ?_
    have hs22 : ShC b0 (ea_wi h (Option.getD (ea_r h a0 17) 0) (Int32.toNatClampNeg (ea_i h a0 16)) (((x1 <<< ((10 : Int32) &&& 31)) ||| (x2 <<< ((7 : Int32) &&& 31))) ||| x3)) := ShC_wi hs
    obtain ⟨H23, eH23, E⟩ := let_some E
    refine ea_nm eH23 ?_
    have hsH23 : ShC b0 H23 := by rw [eH23]; exact hs22
    refine ea_aload_n (pc := 50) dX4_note_50 rfl 0 rfl ?_
    refine ea_dup (pc := 51) dX4_note_51 rfl ?_
    obtain ⟨f24, E⟩ := gd_some E
    refine ea_getI (pc := 52) dX4_note_52 ec_4 (k := 16) (Nat.le_of_ble_eq_true rfl) rfl (Or.inl ew_974) f24.1 f24.2 ?_
    refine ea_iconst (pc := 55) dX4_note_55 (v := 1) rfl ?_
    refine ea_iadd (pc := 56) dX4_note_56 ?_
    obtain ⟨f25, E⟩ := gd_some E
    refine ea_putI (pc := 57) dX4_note_57 ec_4 (k := 16) (Nat.le_of_ble_eq_true rfl) rfl (Or.inl ⟨rfl, Or.inl ew_974⟩) rfl rfl f25.1 f25.2 ?_
    have hs26 : ShC b0 (ea_wi H23 a0 16 ((ea_i H23 a0 16) + (1 : Int32))) := ShC_wi hsH23
    obtain ⟨H27, eH27, E⟩ := let_some E
    refine ea_nm eH27 ?_
    have hsH27 : ShC b0 H27 := by rw [eH27]; exact hs26
    exact ea_vretO (pc := 60) dX4_note_60 rfl E
noncomputable def qX4_note (b0 : Nat) (a0 : Nat) (x1 : Int32) (x2 : Int32) (x3 : Int32) (h : ea_H) : Option (Unit × ea_H) := gX4_note b0 a0 1000000000 0 x1 x2 x3 h
def okX4_note (b0 : Nat) (a0 : Nat) (x1 : Int32) (x2 : Int32) (x3 : Int32) (h : ea_H) : Prop := ∃ x, qX4_note b0 a0 x1 x2 x3 h = some x
noncomputable def wX4_note (b0 : Nat) (a0 : Nat) (x1 : Int32) (x2 : Int32) (x3 : Int32) (h : ea_H) : ea_H := ((qX4_note b0 a0 x1 x2 x3 h).getD ((), h)).2
theorem sX4_note {d : Nat} {b0 : Nat} {a0 : Nat} {x1 : Int32} {x2 : Int32} {x3 : Int32} {h : ea_H} (hd : 3 ≤ d) (hs : ShC b0 h) (K : okX4_note b0 a0 x1 x2 x3 h) : ea_Met mX4_note d [vR (some a0), vI x1, vI x2, vI x3] h none (wX4_note b0 a0 x1 x2 x3 h) := by
  obtain ⟨⟨x, y⟩, K⟩ := K
  unfold wX4_note
  rw [K]
  unfold qX4_note at K
  exact ea_enter rfl (Nat.le_of_ble_eq_true rfl) ((tX4_note hd 1000000000 0 x1 x2 x3 h x y K hs).1 rfl)
theorem zX4_note {b0 : Nat} {a0 : Nat} : ∀ (f lbl : Nat) (x1 : Int32) (x2 : Int32) (x3 : Int32) (h : ea_H) (r : Unit) (h' : ea_H), gX4_note b0 a0 f lbl x1 x2 x3 h = some (r, h') → ShC b0 h → ShC b0 h' := by
  intro f
  induction f with
  | zero => intro lbl x1 x2 x3 h r h' E; cases E
  | succ f ih =>
    intro lbl x1 x2 x3 h r h' E hs
    unfold gX4_note at E
    by_cases el0 : lbl = 0
    · have E := (if_pos el0).symm.trans E
      obtain ⟨f1, E⟩ := gd_some E
      obtain ⟨f2, E⟩ := gd_some E
      obtain ⟨e3, E⟩ := gd_some E
      obtain ⟨f4, E⟩ := gd_some E
      by_cases c16 : (ea_i h a0 16) < (Int32.ofNat (ea_l h (Option.getD (ea_r h a0 17) 0)))
      · have E := (if_pos c16).symm.trans E
        exact ih 30 (x1 : Int32) (x2 : Int32) (x3 : Int32) h _ _ E hs
      have E := (if_neg c16).symm.trans E
      obtain ⟨f5, E⟩ := gd_some E
      obtain ⟨f6, E⟩ := gd_some E
      obtain ⟨e7, E⟩ := gd_some E
      obtain ⟨f8, E⟩ := gd_some E
      obtain ⟨z9, E⟩ := gd_some E
      obtain ⟨H11, eH11, E⟩ := let_some E
      have hsH11 : ShC b0 H11 := by rw [eH11]; exact (shJ7_copyOf_59c91 hs)
      obtain ⟨f12, E⟩ := gd_some E
      obtain ⟨zf14, E⟩ := gd_some E
      obtain ⟨H15, eH15, E⟩ := let_some E
      have hsH15 : ShC b0 H15 := by rw [eH15]; exact (ShC_wd_sh hsH11)
      exact ih 30 (x1 : Int32) (x2 : Int32) (x3 : Int32) H15 _ _ E hsH15
    have E := (if_neg el0).symm.trans E
    by_cases el1 : lbl = 30
    · have E := (if_pos el1).symm.trans E
      obtain ⟨f17, E⟩ := gd_some E
      obtain ⟨f18, E⟩ := gd_some E
      obtain ⟨e19, E⟩ := gd_some E
      obtain ⟨f20, E⟩ := gd_some E
      obtain ⟨z21, E⟩ := gd_some E
      obtain ⟨H23, eH23, E⟩ := let_some E
      have hsH23 : ShC b0 H23 := by rw [eH23]; exact (ShC_wi hs)
      obtain ⟨f24, E⟩ := gd_some E
      obtain ⟨f25, E⟩ := gd_some E
      obtain ⟨H27, eH27, E⟩ := let_some E
      have hsH27 : ShC b0 H27 := by rw [eH27]; exact (ShC_wi hsH23)
      exact ea_shO E hsH27
    have E := (if_neg el1).symm.trans E
    cases E
theorem shX4_note {b0 : Nat} {a0 : Nat} {x1 : Int32} {x2 : Int32} {x3 : Int32} {h : ea_H} (hs : ShC b0 h) : ShC b0 (wX4_note b0 a0 x1 x2 x3 h) := by
  unfold wX4_note
  cases K : qX4_note b0 a0 x1 x2 x3 h with
  | none => exact hs
  | some x => obtain ⟨x, y⟩ := x; unfold qX4_note at K; exact zX4_note _ _ _ _ _ _ _ _ K hs
noncomputable def gX5_scan (b0 : Nat) : Nat → Nat → Int32 → ea_H → Option (Unit × ea_H)
  | 0, _, _, _ => none
  | f + 1, lbl, x1, h =>
    if lbl = 0 then (ea_let (ea_wi h (b0 + 22) 7 0) fun H2 => (gX5_scan b0 f 7 (0 : Int32) H2)) else
    if lbl = 7 then (if (ea_i h (b0 + 22) 0) ≤ x1 then (gd ((okX5_addToken b0 (19 : Int32) ((ea_i h (b0 + 22) 0) : Int32) (0 : Int32) h)) (ea_let (wX5_addToken b0 (19 : Int32) ((ea_i h (b0 + 22) 0) : Int32) (0 : Int32) h) fun H5 => (some ((), H5)))) else (gd (vp_in x1 600) (if (vX5_isLetter ((ea_i h (b0 + 23) (Int32.toNatClampNeg x1)) : Int32) h) = (0 : Int32) then (if (vX5_isDigit ((ea_i h (b0 + 23) (Int32.toNatClampNeg x1)) : Int32) h) = (0 : Int32) then (if (ea_i h (b0 + 23) (Int32.toNatClampNeg x1)) = (32 : Int32) then (gX5_scan b0 f 7 ((x1 + (1 : Int32)) : Int32) h) else (if (ea_i h (b0 + 23) (Int32.toNatClampNeg x1)) = (10 : Int32) then (gX5_scan b0 f 7 ((x1 + (1 : Int32)) : Int32) h) else (if (vX5_isSign ((ea_i h (b0 + 23) (Int32.toNatClampNeg x1)) : Int32) h) = (0 : Int32) then (gd ((okX5_addToken b0 (20 : Int32) (x1 : Int32) (0 : Int32) h)) (ea_let (wX5_addToken b0 (20 : Int32) (x1 : Int32) (0 : Int32) h) fun H12 => (gX5_scan b0 f 7 ((x1 + (1 : Int32)) : Int32) H12))) else (gd ((okX5_addToken b0 ((ea_i h (b0 + 23) (Int32.toNatClampNeg x1)) : Int32) (x1 : Int32) (0 : Int32) h)) (ea_let (wX5_addToken b0 ((ea_i h (b0 + 23) (Int32.toNatClampNeg x1)) : Int32) (x1 : Int32) (0 : Int32) h) fun H15 => (gX5_scan b0 f 7 ((x1 + (1 : Int32)) : Int32) H15)))))) else (gd ((okX5_scanNumber b0 (x1 : Int32) h)) (ea_let (wX5_scanNumber b0 (x1 : Int32) h) fun H21 => (gX5_scan b0 f 7 (((vX5_scanNumber b0 (x1 : Int32) h) + (1 : Int32)) : Int32) H21)))) else (gd ((okX5_scanWord b0 (x1 : Int32) h)) (ea_let (wX5_scanWord b0 (x1 : Int32) h) fun H25 => (gX5_scan b0 f 7 (((vX5_scanWord b0 (x1 : Int32) h) + (1 : Int32)) : Int32) H25)))))) else none
theorem tX5_scan {d : Nat} {b0 : Nat} {h0 : ea_H} (hd : 3 ≤ d) : ∀ (f lbl : Nat) (x1 : Int32) (h : ea_H) (r : Unit) (h' : ea_H), gX5_scan b0 f lbl x1 h = some (r, h') → ShC b0 h → (lbl = 0 → ea_W mX5_scan d h0 none h' 0 [(0, vR (some (b0 + 22)))] [] h) ∧ (lbl = 7 → ea_W mX5_scan d h0 none h' 7 [(0, vR (some (b0 + 22))), (1, vI x1)] [] h) := by
  intro f
  induction f with
  | zero => intro lbl x1 h r h' E; cases E
  | succ f ih =>
    intro lbl x1 h r h' E hs
    unfold gX5_scan at E
    refine ⟨?_, ?_⟩
    · intro el
      subst el
      have E := (if_pos rfl).symm.trans E
      refine ea_aload_n (pc := 0) dX5_scan_0 rfl 0 rfl ?_
      refine ea_iconst (pc := 1) dX5_scan_1 (v := 0) rfl ?_
      refine ea_putI (pc := 2) dX5_scan_2 ec_5 (k := 7) (Nat.le_of_ble_eq_true rfl) rfl (Or.inl ⟨rfl, Or.inl ew_301⟩) rfl rfl (hs.1 22 (by decide)).1 (hs.1 22 (by decide)).2.1 ?_
      have hs1 : ShC b0 (ea_wi h (b0 + 22) 7 0) := ShC_wi hs
      obtain ⟨H2, eH2, E⟩ := let_some E
      refine ea_nm eH2 ?_
      have hsH2 : ShC b0 H2 := by rw [eH2]; exact hs1
      refine ea_iconst (pc := 5) dX5_scan_5 (v := 0) rfl ?_
      refine ea_istore_n (pc := 6) (lv' := [(0, vR (some (b0 + 22))), (1, vI 0)]) dX5_scan_6 rfl (Nat.le_of_ble_eq_true rfl) [1, 0] rfl ?_
      exact ((ih 7 (0 : Int32) H2 _ _ E hsH2).2 rfl)
    intro el
    subst el
    have E := (if_neg (by decide)).symm.trans E
    have E := (if_pos rfl).symm.trans E
    refine ea_iload_n (pc := 7) dX5_scan_7 rfl 1 rfl ?_
    refine ea_aload_n (pc := 8) dX5_scan_8 rfl 0 rfl ?_
    refine ea_getI (pc := 9) dX5_scan_9 ec_5 (k := 0) (Nat.le_of_ble_eq_true rfl) rfl (Or.inl ew_291) (hs.1 22 (by decide)).1 (hs.1 22 (by decide)).2.1 ?_
    refine ea_icmp_ge (pc := 12) (tgt := 91) dX5_scan_12 rfl (fun c27 => ?_) (fun c27 => ?_)
    · have E := (if_pos c27).symm.trans E
      refine ea_aload_n (pc := 91) dX5_scan_91 rfl 0 rfl ?_
      refine ea_bipush (pc := 92) dX5_scan_92 (v := 19) rfl ?_
      refine ea_aload_n (pc := 94) dX5_scan_94 rfl 0 rfl ?_
      refine ea_getI (pc := 95) dX5_scan_95 ec_5 (k := 0) (Nat.le_of_ble_eq_true rfl) rfl (Or.inl ew_291) (hs.1 22 (by decide)).1 (hs.1 22 (by decide)).2.1 ?_
      refine ea_iconst (pc := 98) dX5_scan_98 (v := 0) rfl ?_
      obtain ⟨z3, E⟩ := gd_some E
      refine ea_callV (pc := 99) (d' := d - 1) (As := [vI 19, vI (ea_i h (b0 + 22) 0), vI 0]) (st := []) dX5_scan_99 kX5_addToken (sX5_addToken (d := d - 1) (by omega) hs z3) (by omega) rfl (Nat.le_of_ble_eq_true rfl) ew_771 ew_773 ew_18 (ci := 5) rfl (by decide) (hs.1 22 (by decide)).1 (hs.1 22 (by decide)).2.1 ?_
      have hs4 : ShC b0 (wX5_addToken b0 (19 : Int32) ((ea_i h (b0 + 22) 0) : Int32) (0 : Int32) h) := shX5_addToken hs
      obtain ⟨H5, eH5, E⟩ := let_some E
      refine ea_nm eH5 ?_
      have hsH5 : ShC b0 H5 := by rw [eH5]; exact hs4
      exact ea_vretO (pc := 102) dX5_scan_102 rfl E
    · have E := (if_neg c27).symm.trans E
      refine ea_aload_n (pc := 15) dX5_scan_15 rfl 0 rfl ?_
      refine ea_getR (pc := 16) dX5_scan_16 ec_5 (k := 3) (Nat.le_of_ble_eq_true rfl) rfl (Or.inl ew_297) (hs.1 22 (by decide)).1 (hs.1 22 (by decide)).2.1 (hs.2 22 3 rfl) ?_
      refine ea_iload_n (pc := 19) dX5_scan_19 rfl 1 rfl ?_
      obtain ⟨z6, E⟩ := gd_some E
      refine ea_iald (pc := 20) dX5_scan_20 (hs.1 23 (by decide)).1 (hs.1 23 (by decide)).2.1 (ea_vpl (hs.1 23 (by decide)).2.2 z6) ?_
      refine ea_istore_n (pc := 21) (lv' := [(0, vR (some (b0 + 22))), (1, vI x1), (2, vI (ea_i h (b0 + 23) (Int32.toNatClampNeg x1)))]) dX5_scan_21 rfl (Nat.le_of_ble_eq_true rfl) [1, 2, 0] rfl ?_
      refine ea_iload_n (pc := 22) dX5_scan_22 rfl 2 rfl ?_
      refine ea_callS (pc := 23) (d' := d - 1) (As := [vI (ea_i h (b0 + 23) (Int32.toNatClampNeg x1))]) (st := []) dX5_scan_23 kX5_isLetter (sX5_isLetter (d := d - 1) (by omega)) (by omega) rfl (Nat.le_of_ble_eq_true rfl) ew_761 ew_762 ?_
      refine ea_if_eq (pc := 26) (tgt := 38) dX5_scan_26 rfl (fun c26 => ?_) (fun c26 => ?_)
      · have E := (if_pos c26).symm.trans E
        refine ea_iload_n (pc := 38) dX5_scan_38 rfl 2 rfl ?_
        refine ea_callS (pc := 39) (d' := d - 1) (As := [vI (ea_i h (b0 + 23) (Int32.toNatClampNeg x1))]) (st := []) dX5_scan_39 kX5_isDigit (sX5_isDigit (d := d - 1) (by omega)) (by omega) rfl (Nat.le_of_ble_eq_true rfl) ew_775 ew_776 ?_
        refine ea_if_eq (pc := 42) (tgt := 54) dX5_scan_42 rfl (fun c22 => ?_) (fun c22 => ?_)
        · have E := (if_pos c22).symm.trans E
          refine ea_iload_n (pc := 54) dX5_scan_54 rfl 2 rfl ?_
          refine ea_bipush (pc := 55) dX5_scan_55 (v := 32) rfl ?_
          refine ea_icmp_eq (pc := 57) (tgt := 85) dX5_scan_57 rfl (fun c18 => ?_) (fun c18 => ?_)
          · have E := (if_pos c18).symm.trans E
            refine ea_iinc (pc := 85) (v := 1) (lv' := [(0, vR (some (b0 + 22))), (1, vI (x1 + (1 : Int32)))]) dX5_scan_85 1 rfl rfl (Nat.le_of_ble_eq_true rfl) [1, 0] rfl ?_
            refine ea_goto (pc := 88) (tgt := 7) dX5_scan_88 rfl ?_
            exact ((ih 7 ((x1 + (1 : Int32)) : Int32) h _ _ E hs).2 rfl)
          · have E := (if_neg c18).symm.trans E
            refine ea_iload_n (pc := 60) dX5_scan_60 rfl 2 rfl ?_
            refine ea_bipush (pc := 61) dX5_scan_61 (v := 10) rfl ?_
            refine ea_icmp_eq (pc := 63) (tgt := 85) dX5_scan_63 rfl (fun c17 => ?_) (fun c17 => ?_)
            · have E := (if_pos c17).symm.trans E
              refine ea_iinc (pc := 85) (v := 1) (lv' := [(0, vR (some (b0 + 22))), (1, vI (x1 + (1 : Int32)))]) dX5_scan_85 1 rfl rfl (Nat.le_of_ble_eq_true rfl) [1, 0] rfl ?_
              refine ea_goto (pc := 88) (tgt := 7) dX5_scan_88 rfl ?_
              exact ((ih 7 ((x1 + (1 : Int32)) : Int32) h _ _ E hs).2 rfl)
            · have E := (if_neg c17).symm.trans E
              refine ea_aload_n (pc := 66) dX5_scan_66 rfl 0 rfl ?_
              refine ea_iload_n (pc := 67) dX5_scan_67 rfl 2 rfl ?_
              refine ea_callS (pc := 68) (d' := d - 1) (As := [vI (ea_i h (b0 + 23) (Int32.toNatClampNeg x1))]) (st := [vR (some (b0 + 22))]) dX5_scan_68 kX5_isSign (sX5_isSign (d := d - 1) (by omega)) (by omega) rfl (Nat.le_of_ble_eq_true rfl) ew_782 ew_783 ?_
              refine ea_if_eq (pc := 71) (tgt := 78) dX5_scan_71 rfl (fun c16 => ?_) (fun c16 => ?_)
              · have E := (if_pos c16).symm.trans E
                refine ea_bipush (pc := 78) dX5_scan_78 (v := 20) rfl ?_
                refine ea_iload_n (pc := 80) dX5_scan_80 rfl 1 rfl ?_
                refine ea_iconst (pc := 81) dX5_scan_81 (v := 0) rfl ?_
                obtain ⟨z10, E⟩ := gd_some E
                refine ea_callV (pc := 82) (d' := d - 1) (As := [vI 20, vI x1, vI 0]) (st := []) dX5_scan_82 kX5_addToken (sX5_addToken (d := d - 1) (by omega) hs z10) (by omega) rfl (Nat.le_of_ble_eq_true rfl) ew_771 ew_773 ew_18 (ci := 5) rfl (by decide) (hs.1 22 (by decide)).1 (hs.1 22 (by decide)).2.1 ?_
                have hs11 : ShC b0 (wX5_addToken b0 (20 : Int32) (x1 : Int32) (0 : Int32) h) := shX5_addToken hs
                obtain ⟨H12, eH12, E⟩ := let_some E
                refine ea_nm eH12 ?_
                have hsH12 : ShC b0 H12 := by rw [eH12]; exact hs11
                refine ea_iinc (pc := 85) (v := 1) (lv' := [(0, vR (some (b0 + 22))), (1, vI (x1 + (1 : Int32)))]) dX5_scan_85 1 rfl rfl (Nat.le_of_ble_eq_true rfl) [1, 0] rfl ?_
                refine ea_goto (pc := 88) (tgt := 7) dX5_scan_88 rfl ?_
                exact ((ih 7 ((x1 + (1 : Int32)) : Int32) H12 _ _ E hsH12).2 rfl)
              · have E := (if_neg c16).symm.trans E
                refine ea_iload_n (pc := 74) dX5_scan_74 rfl 2 rfl ?_
                refine ea_goto (pc := 75) (tgt := 80) dX5_scan_75 rfl ?_
                refine ea_iload_n (pc := 80) dX5_scan_80 rfl 1 rfl ?_
                refine ea_iconst (pc := 81) dX5_scan_81 (v := 0) rfl ?_
                obtain ⟨z13, E⟩ := gd_some E
                refine ea_callV (pc := 82) (d' := d - 1) (As := [vI (ea_i h (b0 + 23) (Int32.toNatClampNeg x1)), vI x1, vI 0]) (st := []) dX5_scan_82 kX5_addToken (sX5_addToken (d := d - 1) (by omega) hs z13) (by omega) rfl (Nat.le_of_ble_eq_true rfl) ew_771 ew_773 ew_18 (ci := 5) rfl (by decide) (hs.1 22 (by decide)).1 (hs.1 22 (by decide)).2.1 ?_
                have hs14 : ShC b0 (wX5_addToken b0 ((ea_i h (b0 + 23) (Int32.toNatClampNeg x1)) : Int32) (x1 : Int32) (0 : Int32) h) := shX5_addToken hs
                obtain ⟨H15, eH15, E⟩ := let_some E
                refine ea_nm eH15 ?_
                have hsH15 : ShC b0 H15 := by rw [eH15]; exact hs14
                refine ea_iinc (pc := 85) (v := 1) (lv' := [(0, vR (some (b0 + 22))), (1, vI (x1 + (1 : Int32)))]) dX5_scan_85 1 rfl rfl (Nat.le_of_ble_eq_true rfl) [1, 0] rfl ?_
                refine ea_goto (pc := 88) (tgt := 7) dX5_scan_88 rfl ?_
                exact ((ih 7 ((x1 + (1 : Int32)) : Int32) H15 _ _ E hsH15).2 rfl)
        · have E := (if_neg c22).symm.trans E
          refine ea_aload_n (pc := 45) dX5_scan_45 rfl 0 rfl ?_
          refine ea_iload_n (pc := 46) dX5_scan_46 rfl 1 rfl ?_
          obtain ⟨z19, E⟩ := gd_some E
          refine ea_callV (pc := 47) (d' := d - 1) (As := [vI x1]) (st := []) dX5_scan_47 kX5_scanNumber (sX5_scanNumber (d := d - 1) (by omega) hs z19) (by omega) rfl (Nat.le_of_ble_eq_true rfl) ew_778 ew_780 ew_19 (ci := 5) rfl (by decide) (hs.1 22 (by decide)).1 (hs.1 22 (by decide)).2.1 ?_
          have hs20 : ShC b0 (wX5_scanNumber b0 (x1 : Int32) h) := shX5_scanNumber hs
          obtain ⟨H21, eH21, E⟩ := let_some E
          refine ea_nm eH21 ?_
          have hsH21 : ShC b0 H21 := by rw [eH21]; exact hs20
          refine ea_istore_n (pc := 50) (lv' := [(0, vR (some (b0 + 22))), (1, vI (vX5_scanNumber b0 (x1 : Int32) h))]) dX5_scan_50 rfl (Nat.le_of_ble_eq_true rfl) [1, 0] rfl ?_
          refine ea_goto (pc := 51) (tgt := 85) dX5_scan_51 rfl ?_
          refine ea_iinc (pc := 85) (v := 1) (lv' := [(0, vR (some (b0 + 22))), (1, vI ((vX5_scanNumber b0 (x1 : Int32) h) + (1 : Int32)))]) dX5_scan_85 1 rfl rfl (Nat.le_of_ble_eq_true rfl) [1, 0] rfl ?_
          refine ea_goto (pc := 88) (tgt := 7) dX5_scan_88 rfl ?_
          exact ((ih 7 (((vX5_scanNumber b0 (x1 : Int32) h) + (1 : Int32)) : Int32) H21 _ _ E hsH21).2 rfl)
      · have E := (if_neg c26).symm.trans E
        refine ea_aload_n (pc := 29) dX5_scan_29 rfl 0 rfl ?_
        refine ea_iload_n (pc := 30) dX5_scan_30 rfl 1 rfl ?_
        obtain ⟨z23, E⟩ := gd_some E
        refine ea_callV (pc := 31) (d' := d - 1) (As := [vI x1]) (st := []) dX5_scan_31 kX5_scanWord (sX5_scanWord (d := d - 1) (by omega) hs z23) (by omega) rfl (Nat.le_of_ble_eq_true rfl) ew_764 ew_766 ew_17 (ci := 5) rfl (by decide) (hs.1 22 (by decide)).1 (hs.1 22 (by decide)).2.1 ?_
        have hs24 : ShC b0 (wX5_scanWord b0 (x1 : Int32) h) := shX5_scanWord hs
        obtain ⟨H25, eH25, E⟩ := let_some E
        refine ea_nm eH25 ?_
        have hsH25 : ShC b0 H25 := by rw [eH25]; exact hs24
        refine ea_istore_n (pc := 34) (lv' := [(0, vR (some (b0 + 22))), (1, vI (vX5_scanWord b0 (x1 : Int32) h))]) dX5_scan_34 rfl (Nat.le_of_ble_eq_true rfl) [1, 0] rfl ?_
        refine ea_goto (pc := 35) (tgt := 85) dX5_scan_35 rfl ?_
        refine ea_iinc (pc := 85) (v := 1) (lv' := [(0, vR (some (b0 + 22))), (1, vI ((vX5_scanWord b0 (x1 : Int32) h) + (1 : Int32)))]) dX5_scan_85 1 rfl rfl (Nat.le_of_ble_eq_true rfl) [1, 0] rfl ?_
        refine ea_goto (pc := 88) (tgt := 7) dX5_scan_88 rfl ?_
        exact ((ih 7 (((vX5_scanWord b0 (x1 : Int32) h) + (1 : Int32)) : Int32) H25 _ _ E hsH25).2 rfl)
noncomputable def qX5_scan (b0 : Nat) (h : ea_H) : Option (Unit × ea_H) := gX5_scan b0 1000000000 0 0 h
def okX5_scan (b0 : Nat) (h : ea_H) : Prop := ∃ x, qX5_scan b0 h = some x
noncomputable def wX5_scan (b0 : Nat) (h : ea_H) : ea_H := ((qX5_scan b0 h).getD ((), h)).2
theorem sX5_scan {d : Nat} {b0 : Nat} {h : ea_H} (hd : 3 ≤ d) (hs : ShC b0 h) (K : okX5_scan b0 h) : ea_Met mX5_scan d [vR (some (b0 + 22))] h none (wX5_scan b0 h) := by
  obtain ⟨⟨x, y⟩, K⟩ := K
  unfold wX5_scan
  rw [K]
  unfold qX5_scan at K
  exact ea_enter rfl (Nat.le_of_ble_eq_true rfl) ((tX5_scan hd 1000000000 0 0 h x y K hs).1 rfl)
theorem zX5_scan {b0 : Nat} : ∀ (f lbl : Nat) (x1 : Int32) (h : ea_H) (r : Unit) (h' : ea_H), gX5_scan b0 f lbl x1 h = some (r, h') → ShC b0 h → ShC b0 h' := by
  intro f
  induction f with
  | zero => intro lbl x1 h r h' E; cases E
  | succ f ih =>
    intro lbl x1 h r h' E hs
    unfold gX5_scan at E
    by_cases el0 : lbl = 0
    · have E := (if_pos el0).symm.trans E
      obtain ⟨H2, eH2, E⟩ := let_some E
      have hsH2 : ShC b0 H2 := by rw [eH2]; exact (ShC_wi hs)
      exact ih 7 (0 : Int32) H2 _ _ E hsH2
    have E := (if_neg el0).symm.trans E
    by_cases el1 : lbl = 7
    · have E := (if_pos el1).symm.trans E
      by_cases c27 : (ea_i h (b0 + 22) 0) ≤ x1
      · have E := (if_pos c27).symm.trans E
        obtain ⟨z3, E⟩ := gd_some E
        obtain ⟨H5, eH5, E⟩ := let_some E
        have hsH5 : ShC b0 H5 := by rw [eH5]; exact (shX5_addToken hs)
        exact ea_shO E hsH5
      have E := (if_neg c27).symm.trans E
      obtain ⟨z6, E⟩ := gd_some E
      by_cases c26 : (vX5_isLetter ((ea_i h (b0 + 23) (Int32.toNatClampNeg x1)) : Int32) h) = (0 : Int32)
      · have E := (if_pos c26).symm.trans E
        by_cases c22 : (vX5_isDigit ((ea_i h (b0 + 23) (Int32.toNatClampNeg x1)) : Int32) h) = (0 : Int32)
        · have E := (if_pos c22).symm.trans E
          by_cases c18 : (ea_i h (b0 + 23) (Int32.toNatClampNeg x1)) = (32 : Int32)
          · have E := (if_pos c18).symm.trans E
            exact ih 7 ((x1 + (1 : Int32)) : Int32) h _ _ E hs
          have E := (if_neg c18).symm.trans E
          by_cases c17 : (ea_i h (b0 + 23) (Int32.toNatClampNeg x1)) = (10 : Int32)
          · have E := (if_pos c17).symm.trans E
            exact ih 7 ((x1 + (1 : Int32)) : Int32) h _ _ E hs
          have E := (if_neg c17).symm.trans E
          by_cases c16 : (vX5_isSign ((ea_i h (b0 + 23) (Int32.toNatClampNeg x1)) : Int32) h) = (0 : Int32)
          · have E := (if_pos c16).symm.trans E
            obtain ⟨z10, E⟩ := gd_some E
            obtain ⟨H12, eH12, E⟩ := let_some E
            have hsH12 : ShC b0 H12 := by rw [eH12]; exact (shX5_addToken hs)
            exact ih 7 ((x1 + (1 : Int32)) : Int32) H12 _ _ E hsH12
          have E := (if_neg c16).symm.trans E
          obtain ⟨z13, E⟩ := gd_some E
          obtain ⟨H15, eH15, E⟩ := let_some E
          have hsH15 : ShC b0 H15 := by rw [eH15]; exact (shX5_addToken hs)
          exact ih 7 ((x1 + (1 : Int32)) : Int32) H15 _ _ E hsH15
        have E := (if_neg c22).symm.trans E
        obtain ⟨z19, E⟩ := gd_some E
        obtain ⟨H21, eH21, E⟩ := let_some E
        have hsH21 : ShC b0 H21 := by rw [eH21]; exact (shX5_scanNumber hs)
        exact ih 7 (((vX5_scanNumber b0 (x1 : Int32) h) + (1 : Int32)) : Int32) H21 _ _ E hsH21
      have E := (if_neg c26).symm.trans E
      obtain ⟨z23, E⟩ := gd_some E
      obtain ⟨H25, eH25, E⟩ := let_some E
      have hsH25 : ShC b0 H25 := by rw [eH25]; exact (shX5_scanWord hs)
      exact ih 7 (((vX5_scanWord b0 (x1 : Int32) h) + (1 : Int32)) : Int32) H25 _ _ E hsH25
    have E := (if_neg el1).symm.trans E
    cases E
theorem shX5_scan {b0 : Nat} {h : ea_H} (hs : ShC b0 h) : ShC b0 (wX5_scan b0 h) := by
  unfold wX5_scan
  cases K : qX5_scan b0 h with
  | none => exact hs
  | some x => obtain ⟨x, y⟩ := x; unfold qX5_scan at K; exact zX5_scan _ _ _ _ _ _ K hs
noncomputable def gX6_init (a0 : Nat) : Nat → Nat → Int32 → ea_H → Option (Unit × ea_H)
  | 0, _, _, _ => none
  | f + 1, lbl, x1, h =>
    if lbl = 0 then (ea_let (ea_new h 20 144 144) fun H2 => (gd ((a0 < ea_n H2 ∧ ea_c H2 a0 = 6)) (ea_let (ea_wr H2 a0 1 (some (ea_n h))) fun H5 => (ea_let (ea_new H5 20 144 144) fun H7 => (gd ((a0 < ea_n H7 ∧ ea_c H7 a0 = 6)) (ea_let (ea_wr H7 a0 2 (some (ea_n H5))) fun H10 => (ea_let (ea_new H10 20 144 144) fun H12 => (gd ((a0 < ea_n H12 ∧ ea_c H12 a0 = 6)) (ea_let (ea_wr H12 a0 3 (some (ea_n H10))) fun H15 => (gd ((a0 < ea_n H15 ∧ ea_c H15 a0 = 6)) (gd ((okJ7_fill_53178 ((ea_r H15 a0 1) : Option Nat) (1000000 : Int32) H15)) (ea_let (wJ7_fill_53178 ((ea_r H15 a0 1) : Option Nat) (1000000 : Int32) H15) fun H19 => (gX6_init a0 f 42 (0 : Int32) H19))))))))))))) else
    if lbl = 42 then (if (12 : Int32) ≤ x1 then (gd ((a0 < ea_n h ∧ ea_c h a0 = 6)) (gd ((a0 < ea_n h ∧ ea_c h a0 = 6)) (gd ((okX6_reckon_dyn a0 ((ea_r h a0 2) : Option Nat) (0 : Int32) h)) (ea_let (wX6_reckon_dyn a0 ((ea_r h a0 2) : Option Nat) (0 : Int32) h) fun H24 => (gd ((a0 < ea_n H24 ∧ ea_c H24 a0 = 6)) (gd ((a0 < ea_n H24 ∧ ea_c H24 a0 = 6)) (gd ((okX6_reckon_dyn a0 ((ea_r H24 a0 3) : Option Nat) (1 : Int32) H24)) (ea_let (wX6_reckon_dyn a0 ((ea_r H24 a0 3) : Option Nat) (1 : Int32) H24) fun H29 => (some ((), H29)))))))))) else (gd ((a0 < ea_n h ∧ ea_c h a0 = 6)) (gd ((ea_r h a0 1) = some (Option.getD (ea_r h a0 1) 0)) (gd (((Option.getD (ea_r h a0 1) 0) < ea_n h ∧ ea_c h (Option.getD (ea_r h a0 1) 0) = 20)) (gd (vp_in (((12 : Int32) * x1) + x1) (ea_l h (Option.getD (ea_r h a0 1) 0))) (ea_let (ea_wi h (Option.getD (ea_r h a0 1) 0) (Int32.toNatClampNeg (((12 : Int32) * x1) + x1)) 0) fun H35 => (gX6_init a0 f 42 ((x1 + (1 : Int32)) : Int32) H35))))))) else none
theorem tX6_init {d : Nat} {a0 : Nat} {h0 : ea_H} (hd : 3 ≤ d) : ∀ (f lbl : Nat) (x1 : Int32) (h : ea_H) (r : Unit) (h' : ea_H), gX6_init a0 f lbl x1 h = some (r, h') → (lbl = 0 → ea_W mX6_init d h0 none h' 0 [(0, vR (some a0))] [] h) ∧ (lbl = 42 → ea_W mX6_init d h0 none h' 42 [(0, vR (some a0)), (1, vI x1)] [] h) := by
  intro f
  induction f with
  | zero => intro lbl x1 h r h' E; cases E
  | succ f ih =>
    intro lbl x1 h r h' E
    unfold gX6_init at E
    refine ⟨?_, ?_⟩
    · intro el
      subst el
      have E := (if_pos rfl).symm.trans E
      refine ea_aload_n (pc := 0) dX6_init_0 rfl 0 rfl ?_
      refine ea_objInit (pc := 1) dX6_init_1 ew_141 ew_134 ew_135 (by omega) (Nat.le_of_ble_eq_true rfl) ?_
      refine ea_aload_n (pc := 4) dX6_init_4 rfl 0 rfl ?_
      refine ea_sipush (pc := 5) dX6_init_5 (v := 144) rfl ?_
      refine ea_newI (pc := 8) (N := 144) dX6_init_8 ew_170 (by decide) rfl (Nat.le_of_ble_eq_true rfl) ?_
      obtain ⟨H2, eH2, E⟩ := let_some E
      refine ea_nm eH2 ?_
      obtain ⟨f3, E⟩ := gd_some E
      refine ea_putR (pc := 10) dX6_init_10 ec_6 (k := 1) (Nat.le_of_ble_eq_true rfl) rfl (Or.inr ⟨rfl, rfl, rfl, ew_158⟩) f3.1 f3.2 ?_
      obtain ⟨H5, eH5, E⟩ := let_some E
      refine ea_nm eH5 ?_
      refine ea_aload_n (pc := 13) dX6_init_13 rfl 0 rfl ?_
      refine ea_sipush (pc := 14) dX6_init_14 (v := 144) rfl ?_
      refine ea_newI (pc := 17) (N := 144) dX6_init_17 ew_170 (by decide) rfl (Nat.le_of_ble_eq_true rfl) ?_
      obtain ⟨H7, eH7, E⟩ := let_some E
      refine ea_nm eH7 ?_
      obtain ⟨f8, E⟩ := gd_some E
      refine ea_putR (pc := 19) dX6_init_19 ec_6 (k := 2) (Nat.le_of_ble_eq_true rfl) rfl (Or.inr ⟨rfl, rfl, rfl, ew_159⟩) f8.1 f8.2 ?_
      obtain ⟨H10, eH10, E⟩ := let_some E
      refine ea_nm eH10 ?_
      refine ea_aload_n (pc := 22) dX6_init_22 rfl 0 rfl ?_
      refine ea_sipush (pc := 23) dX6_init_23 (v := 144) rfl ?_
      refine ea_newI (pc := 26) (N := 144) dX6_init_26 ew_170 (by decide) rfl (Nat.le_of_ble_eq_true rfl) ?_
      obtain ⟨H12, eH12, E⟩ := let_some E
      refine ea_nm eH12 ?_
      obtain ⟨f13, E⟩ := gd_some E
      refine ea_putR (pc := 28) dX6_init_28 ec_6 (k := 3) (Nat.le_of_ble_eq_true rfl) rfl (Or.inr ⟨rfl, rfl, rfl, ew_160⟩) f13.1 f13.2 ?_
      obtain ⟨H15, eH15, E⟩ := let_some E
      refine ea_nm eH15 ?_
      refine ea_aload_n (pc := 31) dX6_init_31 rfl 0 rfl ?_
      obtain ⟨f16, E⟩ := gd_some E
      refine ea_getR (pc := 32) dX6_init_32 ec_6 (k := 1) (Nat.le_of_ble_eq_true rfl) rfl (Or.inl ew_158) f16.1 f16.2 rfl ?_
      refine ea_ldc (pc := 35) dX6_init_35 ew_142 ?_
      obtain ⟨z17, E⟩ := gd_some E
      refine ea_callS (pc := 37) (d' := d - 1) (As := [vR (ea_r H15 a0 1), vI 1000000]) (st := []) dX6_init_37 kJ7_fill_53178 (sJ7_fill_53178 (d := d - 1) (by omega) z17) (by omega) rfl (Nat.le_of_ble_eq_true rfl) ew_143 ew_144 ?_
      obtain ⟨H19, eH19, E⟩ := let_some E
      refine ea_nm eH19 ?_
      refine ea_iconst (pc := 40) dX6_init_40 (v := 0) rfl ?_
      refine ea_istore_n (pc := 41) (lv' := [(0, vR (some a0)), (1, vI 0)]) dX6_init_41 rfl (Nat.le_of_ble_eq_true rfl) [1, 0] rfl ?_
      exact ((ih 42 (0 : Int32) H19 _ _ E).2 rfl)
    intro el
    subst el
    have E := (if_neg (by decide)).symm.trans E
    have E := (if_pos rfl).symm.trans E
    refine ea_iload_n (pc := 42) dX6_init_42 rfl 1 rfl ?_
    refine ea_bipush (pc := 43) dX6_init_43 (v := 12) rfl ?_
    refine ea_icmp_ge (pc := 45) (tgt := 66) dX6_init_45 rfl (fun c36 => ?_) (fun c36 => ?_)
    · have E := (if_pos c36).symm.trans E
      refine ea_aload_n (pc := 66) dX6_init_66 rfl 0 rfl ?_
      refine ea_aload_n (pc := 67) dX6_init_67 rfl 0 rfl ?_
      obtain ⟨f20, E⟩ := gd_some E
      refine ea_getR (pc := 68) dX6_init_68 ec_6 (k := 2) (Nat.le_of_ble_eq_true rfl) rfl (Or.inl ew_159) f20.1 f20.2 rfl ?_
      refine ea_iconst (pc := 71) dX6_init_71 (v := 0) rfl ?_
      obtain ⟨f21, E⟩ := gd_some E
      obtain ⟨z22, E⟩ := gd_some E
      refine ea_callV (pc := 72) (d' := d - 1) (As := [vR (ea_r h a0 2), vI 0]) (st := []) dX6_init_72 kX6_reckon (sX6_reckon_dyn (d := d - 1) (by omega) z22) (by omega) rfl (Nat.le_of_ble_eq_true rfl) ew_146 ew_148 ew_0 (ci := 6) rfl (by decide) f21.1 f21.2 ?_
      obtain ⟨H24, eH24, E⟩ := let_some E
      refine ea_nm eH24 ?_
      refine ea_aload_n (pc := 75) dX6_init_75 rfl 0 rfl ?_
      refine ea_aload_n (pc := 76) dX6_init_76 rfl 0 rfl ?_
      obtain ⟨f25, E⟩ := gd_some E
      refine ea_getR (pc := 77) dX6_init_77 ec_6 (k := 3) (Nat.le_of_ble_eq_true rfl) rfl (Or.inl ew_160) f25.1 f25.2 rfl ?_
      refine ea_iconst (pc := 80) dX6_init_80 (v := 1) rfl ?_
      obtain ⟨f26, E⟩ := gd_some E
      obtain ⟨z27, E⟩ := gd_some E
      refine ea_callV (pc := 81) (d' := d - 1) (As := [vR (ea_r H24 a0 3), vI 1]) (st := []) dX6_init_81 kX6_reckon (sX6_reckon_dyn (d := d - 1) (by omega) z27) (by omega) rfl (Nat.le_of_ble_eq_true rfl) ew_146 ew_148 ew_0 (ci := 6) rfl (by decide) f26.1 f26.2 ?_
      obtain ⟨H29, eH29, E⟩ := let_some E
      refine ea_nm eH29 ?_
      exact ea_vretO (pc := 84) dX6_init_84 rfl E
    · have E := (if_neg c36).symm.trans E
      refine ea_aload_n (pc := 48) dX6_init_48 rfl 0 rfl ?_
      obtain ⟨f30, E⟩ := gd_some E
      refine ea_getR (pc := 49) dX6_init_49 ec_6 (k := 1) (Nat.le_of_ble_eq_true rfl) rfl (Or.inl ew_158) f30.1 f30.2 rfl ?_
      refine ea_bipush (pc := 52) dX6_init_52 (v := 12) rfl ?_
      refine ea_iload_n (pc := 54) dX6_init_54 rfl 1 rfl ?_
      refine ea_imul (pc := 55) dX6_init_55 ?_
      refine ea_iload_n (pc := 56) dX6_init_56 rfl 1 rfl ?_
      refine ea_iadd (pc := 57) dX6_init_57 ?_
      refine ea_iconst (pc := 58) dX6_init_58 (v := 0) rfl ?_
      obtain ⟨e31, E⟩ := gd_some E
      obtain ⟨f32, E⟩ := gd_some E
      obtain ⟨z33, E⟩ := gd_some E
      refine ea_deref2 e31 ?_
      refine ea_iast (pc := 59) dX6_init_59 f32.1 f32.2 z33 ?_
      obtain ⟨H35, eH35, E⟩ := let_some E
      refine ea_nm eH35 ?_
      refine ea_iinc (pc := 60) (v := 1) (lv' := [(0, vR (some a0)), (1, vI (x1 + (1 : Int32)))]) dX6_init_60 1 rfl rfl (Nat.le_of_ble_eq_true rfl) [1, 0] rfl ?_
      refine ea_goto (pc := 63) (tgt := 42) dX6_init_63 rfl ?_
      exact ((ih 42 ((x1 + (1 : Int32)) : Int32) H35 _ _ E).2 rfl)
noncomputable def qX6_init (a0 : Nat) (h : ea_H) : Option (Unit × ea_H) := gX6_init a0 1000000000 0 0 h
def okX6_init (a0 : Nat) (h : ea_H) : Prop := ∃ x, qX6_init a0 h = some x
noncomputable def wX6_init (a0 : Nat) (h : ea_H) : ea_H := ((qX6_init a0 h).getD ((), h)).2
theorem sX6_init {d : Nat} {a0 : Nat} {h : ea_H} (hd : 3 ≤ d) (K : okX6_init a0 h) : ea_Met mX6_init d [vR (some a0)] h none (wX6_init a0 h) := by
  obtain ⟨⟨x, y⟩, K⟩ := K
  unfold wX6_init
  rw [K]
  unfold qX6_init at K
  exact ea_enter rfl (Nat.le_of_ble_eq_true rfl) ((tX6_init hd 1000000000 0 0 h x y K).1 rfl)
noncomputable def gX8_lineFor (b0 : Nat) : Nat → Nat → Option Nat → Option Nat → Int32 → ea_H → Option (Int32 × ea_H)
  | 0, _, _, _, _, _ => none
  | f + 1, lbl, r1, r2, x3, h =>
    if lbl = 0 then (gd ((okX8_ask b0 (r2 : Option Nat) h)) (ea_let (wX8_ask b0 (r2 : Option Nat) h) fun H3 => (gX8_lineFor b0 f 7 (r1 : Option Nat) none (0 : Int32) H3))) else
    if lbl = 7 then (gd (r1 = some (Option.getD r1 0)) (gd (((Option.getD r1 0) < ea_n h ∧ ea_c h (Option.getD r1 0) = 0)) (if (ea_i h (Option.getD r1 0) 8) ≤ x3 then (some (((-1) : Int32), h)) else (gd (r1 = some (Option.getD r1 0)) (gd (((Option.getD r1 0) < ea_n h ∧ ea_c h (Option.getD r1 0) = 0)) (gd ((ea_r h (Option.getD r1 0) 10) = some (Option.getD (ea_r h (Option.getD r1 0) 10) 0)) (gd (((Option.getD (ea_r h (Option.getD r1 0) 10) 0) < ea_n h ∧ ea_c h (Option.getD (ea_r h (Option.getD r1 0) 10) 0) = 20)) (gd (vp_in x3 (ea_l h (Option.getD (ea_r h (Option.getD r1 0) 10) 0))) (if (ea_i h (Option.getD (ea_r h (Option.getD r1 0) 10) 0) (Int32.toNatClampNeg x3)) = ((-1) : Int32) then (some (x3, h)) else (gd (r1 = some (Option.getD r1 0)) (gd (((Option.getD r1 0) < ea_n h ∧ ea_c h (Option.getD r1 0) = 0)) (gd (r1 = some (Option.getD r1 0)) (gd (((Option.getD r1 0) < ea_n h ∧ ea_c h (Option.getD r1 0) = 0)) (gd ((ea_r h (Option.getD r1 0) 10) = some (Option.getD (ea_r h (Option.getD r1 0) 10) 0)) (gd (((Option.getD (ea_r h (Option.getD r1 0) 10) 0) < ea_n h ∧ ea_c h (Option.getD (ea_r h (Option.getD r1 0) 10) 0) = 20)) (gd (vp_in x3 (ea_l h (Option.getD (ea_r h (Option.getD r1 0) 10) 0))) (gd ((okX8_worth b0 ((ea_r h (Option.getD r1 0) 11) : Option Nat) ((ea_i h (Option.getD (ea_r h (Option.getD r1 0) 10) 0) (Int32.toNatClampNeg x3)) : Int32) h)) (ea_let (wX8_worth b0 ((ea_r h (Option.getD r1 0) 11) : Option Nat) ((ea_i h (Option.getD (ea_r h (Option.getD r1 0) 10) 0) (Int32.toNatClampNeg x3)) : Int32) h) fun H20 => (if (vX8_worth b0 ((ea_r h (Option.getD r1 0) 11) : Option Nat) ((ea_i h (Option.getD (ea_r h (Option.getD r1 0) 10) 0) (Int32.toNatClampNeg x3)) : Int32) h) = (0 : Int32) then (gX8_lineFor b0 f 7 (r1 : Option Nat) none ((x3 + (1 : Int32)) : Int32) H20) else (some (x3, H20))))))))))))))))))))) else none
theorem tX8_lineFor {d : Nat} {b0 : Nat} {h0 : ea_H} (hd : 3 ≤ d) : ∀ (f lbl : Nat) (r1 : Option Nat) (r2 : Option Nat) (x3 : Int32) (h : ea_H) (r : Int32) (h' : ea_H), gX8_lineFor b0 f lbl r1 r2 x3 h = some (r, h') → ShC b0 h → (lbl = 0 → ea_W mX8_lineFor d h0 (some (vI r)) h' 0 [(0, vR (some (b0 + 21))), (1, vR r1), (2, vR r2)] [] h) ∧ (lbl = 7 → ea_W mX8_lineFor d h0 (some (vI r)) h' 7 [(0, vR (some (b0 + 21))), (1, vR r1), (3, vI x3)] [] h) := by
  intro f
  induction f with
  | zero => intro lbl r1 r2 x3 h r h' E; cases E
  | succ f ih =>
    intro lbl r1 r2 x3 h r h' E hs
    unfold gX8_lineFor at E
    refine ⟨?_, ?_⟩
    · intro el
      subst el
      have E := (if_pos rfl).symm.trans E
      refine ea_aload_n (pc := 0) dX8_lineFor_0 rfl 0 rfl ?_
      refine ea_aload_n (pc := 1) dX8_lineFor_1 rfl 2 rfl ?_
      obtain ⟨z1, E⟩ := gd_some E
      refine ea_callV (pc := 2) (d' := d - 1) (As := [vR r2]) (st := []) dX8_lineFor_2 kX8_ask (sX8_ask (d := d - 1) (by omega) hs z1) (by omega) rfl (Nat.le_of_ble_eq_true rfl) ew_1054 ew_1056 ew_35 (ci := 8) rfl (by decide) (hs.1 21 (by decide)).1 (hs.1 21 (by decide)).2.1 ?_
      have hs2 : ShC b0 (wX8_ask b0 (r2 : Option Nat) h) := shX8_ask hs
      obtain ⟨H3, eH3, E⟩ := let_some E
      refine ea_nm eH3 ?_
      have hsH3 : ShC b0 H3 := by rw [eH3]; exact hs2
      refine ea_iconst (pc := 5) dX8_lineFor_5 (v := 0) rfl ?_
      refine ea_istore_n (pc := 6) (lv' := [(0, vR (some (b0 + 21))), (1, vR r1), (3, vI 0)]) dX8_lineFor_6 rfl (Nat.le_of_ble_eq_true rfl) [1, 2, 0] rfl ?_
      exact ((ih 7 (r1 : Option Nat) none (0 : Int32) H3 _ _ E hsH3).2 rfl)
    intro el
    subst el
    have E := (if_neg (by decide)).symm.trans E
    have E := (if_pos rfl).symm.trans E
    refine ea_iload_n (pc := 7) dX8_lineFor_7 rfl 2 rfl ?_
    refine ea_aload_n (pc := 8) dX8_lineFor_8 rfl 1 rfl ?_
    obtain ⟨e4, E⟩ := gd_some E
    obtain ⟨f5, E⟩ := gd_some E
    refine ea_deref0 e4 ?_
    refine ea_getI (pc := 9) dX8_lineFor_9 ec_0 (k := 8) (Nat.le_of_ble_eq_true rfl) rfl (Or.inl ew_817) f5.1 f5.2 ?_
    refine ea_icmp_ge (pc := 12) (tgt := 50) dX8_lineFor_12 rfl (fun c23 => ?_) (fun c23 => ?_)
    · have E := (if_pos c23).symm.trans E
      refine ea_iconst (pc := 50) dX8_lineFor_50 (v := (-1)) rfl ?_
      exact ea_iretO (pc := 51) dX8_lineFor_51 rfl rfl E
    · have E := (if_neg c23).symm.trans E
      refine ea_aload_n (pc := 15) dX8_lineFor_15 rfl 1 rfl ?_
      obtain ⟨e6, E⟩ := gd_some E
      obtain ⟨f7, E⟩ := gd_some E
      refine ea_deref0 e6 ?_
      refine ea_getR (pc := 16) dX8_lineFor_16 ec_0 (k := 10) (Nat.le_of_ble_eq_true rfl) rfl (Or.inl ew_823) f7.1 f7.2 rfl ?_
      refine ea_iload_n (pc := 19) dX8_lineFor_19 rfl 2 rfl ?_
      obtain ⟨e8, E⟩ := gd_some E
      obtain ⟨f9, E⟩ := gd_some E
      obtain ⟨z10, E⟩ := gd_some E
      refine ea_deref1 e8 ?_
      refine ea_iald (pc := 20) dX8_lineFor_20 f9.1 f9.2 z10 ?_
      refine ea_iconst (pc := 21) dX8_lineFor_21 (v := (-1)) rfl ?_
      refine ea_icmp_eq (pc := 22) (tgt := 42) dX8_lineFor_22 rfl (fun c22 => ?_) (fun c22 => ?_)
      · have E := (if_pos c22).symm.trans E
        refine ea_iload_n (pc := 42) dX8_lineFor_42 rfl 2 rfl ?_
        exact ea_iretO (pc := 43) dX8_lineFor_43 rfl rfl E
      · have E := (if_neg c22).symm.trans E
        refine ea_aload_n (pc := 25) dX8_lineFor_25 rfl 0 rfl ?_
        refine ea_aload_n (pc := 26) dX8_lineFor_26 rfl 1 rfl ?_
        obtain ⟨e11, E⟩ := gd_some E
        obtain ⟨f12, E⟩ := gd_some E
        refine ea_deref0 e11 ?_
        refine ea_getR (pc := 27) dX8_lineFor_27 ec_0 (k := 11) (Nat.le_of_ble_eq_true rfl) rfl (Or.inl ew_825) f12.1 f12.2 rfl ?_
        refine ea_aload_n (pc := 30) dX8_lineFor_30 rfl 1 rfl ?_
        obtain ⟨e13, E⟩ := gd_some E
        obtain ⟨f14, E⟩ := gd_some E
        refine ea_deref0 e13 ?_
        refine ea_getR (pc := 31) dX8_lineFor_31 ec_0 (k := 10) (Nat.le_of_ble_eq_true rfl) rfl (Or.inl ew_823) f14.1 f14.2 rfl ?_
        refine ea_iload_n (pc := 34) dX8_lineFor_34 rfl 2 rfl ?_
        obtain ⟨e15, E⟩ := gd_some E
        obtain ⟨f16, E⟩ := gd_some E
        obtain ⟨z17, E⟩ := gd_some E
        refine ea_deref1 e15 ?_
        refine ea_iald (pc := 35) dX8_lineFor_35 f16.1 f16.2 z17 ?_
        obtain ⟨z18, E⟩ := gd_some E
        refine ea_callV (pc := 36) (d' := d - 1) (As := [vR (ea_r h (Option.getD r1 0) 11), vI (ea_i h (Option.getD (ea_r h (Option.getD r1 0) 10) 0) (Int32.toNatClampNeg x3))]) (st := []) dX8_lineFor_36 kX8_worth (sX8_worth (d := d - 1) (by omega) hs z18) (by omega) rfl (Nat.le_of_ble_eq_true rfl) ew_1058 ew_1060 ew_36 (ci := 8) rfl (by decide) (hs.1 21 (by decide)).1 (hs.1 21 (by decide)).2.1 ?_
        have hs19 : ShC b0 (wX8_worth b0 ((ea_r h (Option.getD r1 0) 11) : Option Nat) ((ea_i h (Option.getD (ea_r h (Option.getD r1 0) 10) 0) (Int32.toNatClampNeg x3)) : Int32) h) := shX8_worth hs
        obtain ⟨H20, eH20, E⟩ := let_some E
        refine ea_nm eH20 ?_
        have hsH20 : ShC b0 H20 := by rw [eH20]; exact hs19
        refine ea_if_eq (pc := 39) (tgt := 44) dX8_lineFor_39 rfl (fun c21 => ?_) (fun c21 => ?_)
        · have E := (if_pos c21).symm.trans E
          refine ea_iinc (pc := 44) (v := 1) (lv' := [(0, vR (some (b0 + 21))), (1, vR r1), (3, vI (x3 + (1 : Int32)))]) dX8_lineFor_44 2 rfl rfl (Nat.le_of_ble_eq_true rfl) [1, 2, 0] rfl ?_
          refine ea_goto (pc := 47) (tgt := 7) dX8_lineFor_47 rfl ?_
          exact ((ih 7 (r1 : Option Nat) none ((x3 + (1 : Int32)) : Int32) H20 _ _ E hsH20).2 rfl)
        · have E := (if_neg c21).symm.trans E
          refine ea_iload_n (pc := 42) dX8_lineFor_42 rfl 2 rfl ?_
          exact ea_iretO (pc := 43) dX8_lineFor_43 rfl rfl E
noncomputable def qX8_lineFor (b0 : Nat) (r1 : Option Nat) (r2 : Option Nat) (h : ea_H) : Option (Int32 × ea_H) := gX8_lineFor b0 1000000000 0 r1 r2 0 h
def okX8_lineFor (b0 : Nat) (r1 : Option Nat) (r2 : Option Nat) (h : ea_H) : Prop := ∃ x, qX8_lineFor b0 r1 r2 h = some x
noncomputable def vX8_lineFor (b0 : Nat) (r1 : Option Nat) (r2 : Option Nat) (h : ea_H) : Int32 := ((qX8_lineFor b0 r1 r2 h).getD (0, h)).1
noncomputable def wX8_lineFor (b0 : Nat) (r1 : Option Nat) (r2 : Option Nat) (h : ea_H) : ea_H := ((qX8_lineFor b0 r1 r2 h).getD (0, h)).2
theorem sX8_lineFor {d : Nat} {b0 : Nat} {r1 : Option Nat} {r2 : Option Nat} {h : ea_H} (hd : 3 ≤ d) (hs : ShC b0 h) (K : okX8_lineFor b0 r1 r2 h) : ea_Met mX8_lineFor d [vR (some (b0 + 21)), vR r1, vR r2] h (some (vI (vX8_lineFor b0 r1 r2 h))) (wX8_lineFor b0 r1 r2 h) := by
  obtain ⟨⟨x, y⟩, K⟩ := K
  unfold wX8_lineFor vX8_lineFor
  rw [K]
  unfold qX8_lineFor at K
  exact ea_enter rfl (Nat.le_of_ble_eq_true rfl) ((tX8_lineFor hd 1000000000 0 r1 r2 0 h x y K hs).1 rfl)
theorem zX8_lineFor {b0 : Nat} : ∀ (f lbl : Nat) (r1 : Option Nat) (r2 : Option Nat) (x3 : Int32) (h : ea_H) (r : Int32) (h' : ea_H), gX8_lineFor b0 f lbl r1 r2 x3 h = some (r, h') → ShC b0 h → ShC b0 h' := by
  intro f
  induction f with
  | zero => intro lbl r1 r2 x3 h r h' E; cases E
  | succ f ih =>
    intro lbl r1 r2 x3 h r h' E hs
    unfold gX8_lineFor at E
    by_cases el0 : lbl = 0
    · have E := (if_pos el0).symm.trans E
      obtain ⟨z1, E⟩ := gd_some E
      obtain ⟨H3, eH3, E⟩ := let_some E
      have hsH3 : ShC b0 H3 := by rw [eH3]; exact (shX8_ask hs)
      exact ih 7 (r1 : Option Nat) none (0 : Int32) H3 _ _ E hsH3
    have E := (if_neg el0).symm.trans E
    by_cases el1 : lbl = 7
    · have E := (if_pos el1).symm.trans E
      obtain ⟨e4, E⟩ := gd_some E
      obtain ⟨f5, E⟩ := gd_some E
      by_cases c23 : (ea_i h (Option.getD r1 0) 8) ≤ x3
      · have E := (if_pos c23).symm.trans E
        exact ea_shO E hs
      have E := (if_neg c23).symm.trans E
      obtain ⟨e6, E⟩ := gd_some E
      obtain ⟨f7, E⟩ := gd_some E
      obtain ⟨e8, E⟩ := gd_some E
      obtain ⟨f9, E⟩ := gd_some E
      obtain ⟨z10, E⟩ := gd_some E
      by_cases c22 : (ea_i h (Option.getD (ea_r h (Option.getD r1 0) 10) 0) (Int32.toNatClampNeg x3)) = ((-1) : Int32)
      · have E := (if_pos c22).symm.trans E
        exact ea_shO E hs
      have E := (if_neg c22).symm.trans E
      obtain ⟨e11, E⟩ := gd_some E
      obtain ⟨f12, E⟩ := gd_some E
      obtain ⟨e13, E⟩ := gd_some E
      obtain ⟨f14, E⟩ := gd_some E
      obtain ⟨e15, E⟩ := gd_some E
      obtain ⟨f16, E⟩ := gd_some E
      obtain ⟨z17, E⟩ := gd_some E
      obtain ⟨z18, E⟩ := gd_some E
      obtain ⟨H20, eH20, E⟩ := let_some E
      have hsH20 : ShC b0 H20 := by rw [eH20]; exact (shX8_worth hs)
      by_cases c21 : (vX8_worth b0 ((ea_r h (Option.getD r1 0) 11) : Option Nat) ((ea_i h (Option.getD (ea_r h (Option.getD r1 0) 10) 0) (Int32.toNatClampNeg x3)) : Int32) h) = (0 : Int32)
      · have E := (if_pos c21).symm.trans E
        exact ih 7 (r1 : Option Nat) none ((x3 + (1 : Int32)) : Int32) H20 _ _ E hsH20
      have E := (if_neg c21).symm.trans E
      exact ea_shO E hsH20
    have E := (if_neg el1).symm.trans E
    cases E
theorem shX8_lineFor {b0 : Nat} {r1 : Option Nat} {r2 : Option Nat} {h : ea_H} (hs : ShC b0 h) : ShC b0 (wX8_lineFor b0 r1 r2 h) := by
  unfold wX8_lineFor
  cases K : qX8_lineFor b0 r1 r2 h with
  | none => exact hs
  | some x => obtain ⟨x, y⟩ := x; unfold qX8_lineFor at K; exact zX8_lineFor _ _ _ _ _ _ _ _ K hs
noncomputable def gX10_linkMinutes (b0 : Nat) : Nat → Nat → Int32 → Int32 → Int32 → ea_H → Option (Unit × ea_H)
  | 0, _, _, _, _, _ => none
  | f + 1, lbl, x1, x2, x3, h =>
    if lbl = 0 then (gd ((okJ7_fill_53178 ((some (b0 + 15)) : Option Nat) ((-1) : Int32) h)) (ea_let (wJ7_fill_53178 ((some (b0 + 15)) : Option Nat) ((-1) : Int32) h) fun H3 => (gX10_linkMinutes b0 f 10 (0 : Int32) 0 0 H3))) else
    if lbl = 10 then (if (ea_i h (b0 + 13) 1) ≤ x1 then (some ((), h)) else (gd ((ea_r h (b0 + 13) 3) = some (Option.getD (ea_r h (b0 + 13) 3) 0)) (gd (((Option.getD (ea_r h (b0 + 13) 3) 0) < ea_n h ∧ ea_c h (Option.getD (ea_r h (b0 + 13) 3) 0) = 20)) (gd (vp_in x1 (ea_l h (Option.getD (ea_r h (b0 + 13) 3) 0))) (if (vX10_isGoing ((ea_i h (Option.getD (ea_r h (b0 + 13) 3) 0) (Int32.toNatClampNeg x1)) : Int32) h) = (0 : Int32) then (gX10_linkMinutes b0 f 10 ((x1 + (1 : Int32)) : Int32) 0 0 h) else (gd ((okX10_townIn b0 ((ea_i h (Option.getD (ea_r h (b0 + 13) 3) 0) (Int32.toNatClampNeg x1)) : Int32) h)) (gd (vp_in (vX10_townIn b0 ((ea_i h (Option.getD (ea_r h (b0 + 13) 3) 0) (Int32.toNatClampNeg x1)) : Int32) h) 12) (if (ea_i h (b0 + 15) (Int32.toNatClampNeg (vX10_townIn b0 ((ea_i h (Option.getD (ea_r h (b0 + 13) 3) 0) (Int32.toNatClampNeg x1)) : Int32) h))) = (vX10_minuteIn ((ea_i h (Option.getD (ea_r h (b0 + 13) 3) 0) (Int32.toNatClampNeg x1)) : Int32) h) then (gX10_linkMinutes b0 f 71 (x1 : Int32) ((ea_i h (Option.getD (ea_r h (b0 + 13) 3) 0) (Int32.toNatClampNeg x1)) : Int32) ((vX10_townIn b0 ((ea_i h (Option.getD (ea_r h (b0 + 13) 3) 0) (Int32.toNatClampNeg x1)) : Int32) h) : Int32) h) else (gd (vp_in (vX10_townIn b0 ((ea_i h (Option.getD (ea_r h (b0 + 13) 3) 0) (Int32.toNatClampNeg x1)) : Int32) h) 12) (ea_let (ea_wi h (b0 + 15) (Int32.toNatClampNeg (vX10_townIn b0 ((ea_i h (Option.getD (ea_r h (b0 + 13) 3) 0) (Int32.toNatClampNeg x1)) : Int32) h)) (vX10_minuteIn ((ea_i h (Option.getD (ea_r h (b0 + 13) 3) 0) (Int32.toNatClampNeg x1)) : Int32) h)) fun H14 => (gd (vp_in (vX10_townIn b0 ((ea_i h (Option.getD (ea_r h (b0 + 13) 3) 0) (Int32.toNatClampNeg x1)) : Int32) h) 12) (ea_let (ea_wi H14 (b0 + 14) (Int32.toNatClampNeg (vX10_townIn b0 ((ea_i h (Option.getD (ea_r h (b0 + 13) 3) 0) (Int32.toNatClampNeg x1)) : Int32) h)) (vX10_slotIn ((ea_i h (Option.getD (ea_r h (b0 + 13) 3) 0) (Int32.toNatClampNeg x1)) : Int32) H14)) fun H18 => (gX10_linkMinutes b0 f 71 (x1 : Int32) ((ea_i h (Option.getD (ea_r h (b0 + 13) 3) 0) (Int32.toNatClampNeg x1)) : Int32) ((vX10_townIn b0 ((ea_i h (Option.getD (ea_r h (b0 + 13) 3) 0) (Int32.toNatClampNeg x1)) : Int32) h) : Int32) H18))))))))))))) else
    if lbl = 71 then (gd (vp_in x3 12) (gd ((ea_r h (b0 + 13) 6) = some (Option.getD (ea_r h (b0 + 13) 6) 0)) (gd (((Option.getD (ea_r h (b0 + 13) 6) 0) < ea_n h ∧ ea_c h (Option.getD (ea_r h (b0 + 13) 6) 0) = 20)) (gd (vp_in (vX10_slotIn (x2 : Int32) h) (ea_l h (Option.getD (ea_r h (b0 + 13) 6) 0))) (ea_let (ea_wi h (Option.getD (ea_r h (b0 + 13) 6) 0) (Int32.toNatClampNeg (vX10_slotIn (x2 : Int32) h)) (ea_i h (b0 + 14) (Int32.toNatClampNeg x3))) fun H28 => (gX10_linkMinutes b0 f 10 ((x1 + (1 : Int32)) : Int32) 0 0 H28)))))) else none
theorem tX10_linkMinutes {d : Nat} {b0 : Nat} {h0 : ea_H} (hd : 3 ≤ d) : ∀ (f lbl : Nat) (x1 : Int32) (x2 : Int32) (x3 : Int32) (h : ea_H) (r : Unit) (h' : ea_H), gX10_linkMinutes b0 f lbl x1 x2 x3 h = some (r, h') → ShC b0 h → (lbl = 0 → ea_W mX10_linkMinutes d h0 none h' 0 [(0, vR (some (b0 + 13)))] [] h) ∧ (lbl = 10 → ea_W mX10_linkMinutes d h0 none h' 10 [(0, vR (some (b0 + 13))), (1, vI x1)] [] h) ∧ (lbl = 71 → ea_W mX10_linkMinutes d h0 none h' 71 [(0, vR (some (b0 + 13))), (1, vI x1), (2, vI x2), (3, vI x3)] [] h) := by
  intro f
  induction f with
  | zero => intro lbl x1 x2 x3 h r h' E; cases E
  | succ f ih =>
    intro lbl x1 x2 x3 h r h' E hs
    unfold gX10_linkMinutes at E
    refine ⟨?_, ?_⟩
    · intro el
      subst el
      have E := (if_pos rfl).symm.trans E
      refine ea_aload_n (pc := 0) dX10_linkMinutes_0 rfl 0 rfl ?_
      refine ea_getR (pc := 1) dX10_linkMinutes_1 ec_10 (k := 8) (Nat.le_of_ble_eq_true rfl) rfl (Or.inl ew_235) (hs.1 13 (by decide)).1 (hs.1 13 (by decide)).2.1 (hs.2 13 8 rfl) ?_
      refine ea_iconst (pc := 4) dX10_linkMinutes_4 (v := (-1)) rfl ?_
      obtain ⟨z1, E⟩ := gd_some E
      refine ea_callS (pc := 5) (d' := d - 1) (As := [vR (some (b0 + 15)), vI (-1)]) (st := []) dX10_linkMinutes_5 kJ7_fill_53178 (sJ7_fill_53178 (d := d - 1) (by omega) z1) (by omega) rfl (Nat.le_of_ble_eq_true rfl) ew_588 ew_144 ?_
      have hs2 : ShC b0 (wJ7_fill_53178 ((some (b0 + 15)) : Option Nat) ((-1) : Int32) h) := shJ7_fill_53178 hs
      obtain ⟨H3, eH3, E⟩ := let_some E
      refine ea_nm eH3 ?_
      have hsH3 : ShC b0 H3 := by rw [eH3]; exact hs2
      refine ea_iconst (pc := 8) dX10_linkMinutes_8 (v := 0) rfl ?_
      refine ea_istore_n (pc := 9) (lv' := [(0, vR (some (b0 + 13))), (1, vI 0)]) dX10_linkMinutes_9 rfl (Nat.le_of_ble_eq_true rfl) [1, 0] rfl ?_
      exact ((ih 10 (0 : Int32) 0 0 H3 _ _ E hsH3).2.1 rfl)
    refine ⟨?_, ?_⟩
    · intro el
      subst el
      have E := (if_neg (by decide)).symm.trans E
      have E := (if_pos rfl).symm.trans E
      refine ea_iload_n (pc := 10) dX10_linkMinutes_10 rfl 1 rfl ?_
      refine ea_aload_n (pc := 11) dX10_linkMinutes_11 rfl 0 rfl ?_
      refine ea_getI (pc := 12) dX10_linkMinutes_12 ec_10 (k := 1) (Nat.le_of_ble_eq_true rfl) rfl (Or.inl ew_227) (hs.1 13 (by decide)).1 (hs.1 13 (by decide)).2.1 ?_
      refine ea_icmp_ge (pc := 15) (tgt := 92) dX10_linkMinutes_15 rfl (fun c21 => ?_) (fun c21 => ?_)
      · have E := (if_pos c21).symm.trans E
        exact ea_vretO (pc := 92) dX10_linkMinutes_92 rfl E
      · have E := (if_neg c21).symm.trans E
        refine ea_aload_n (pc := 18) dX10_linkMinutes_18 rfl 0 rfl ?_
        refine ea_getR (pc := 19) dX10_linkMinutes_19 ec_10 (k := 3) (Nat.le_of_ble_eq_true rfl) rfl (Or.inl ew_230) (hs.1 13 (by decide)).1 (hs.1 13 (by decide)).2.1 rfl ?_
        refine ea_iload_n (pc := 22) dX10_linkMinutes_22 rfl 1 rfl ?_
        obtain ⟨e4, E⟩ := gd_some E
        obtain ⟨f5, E⟩ := gd_some E
        obtain ⟨z6, E⟩ := gd_some E
        refine ea_deref1 e4 ?_
        refine ea_iald (pc := 23) dX10_linkMinutes_23 f5.1 f5.2 z6 ?_
        refine ea_istore_n (pc := 24) (lv' := [(0, vR (some (b0 + 13))), (1, vI x1), (2, vI (ea_i h (Option.getD (ea_r h (b0 + 13) 3) 0) (Int32.toNatClampNeg x1)))]) dX10_linkMinutes_24 rfl (Nat.le_of_ble_eq_true rfl) [1, 2, 0] rfl ?_
        refine ea_iload_n (pc := 25) dX10_linkMinutes_25 rfl 2 rfl ?_
        refine ea_callS (pc := 26) (d' := d - 1) (As := [vI (ea_i h (Option.getD (ea_r h (b0 + 13) 3) 0) (Int32.toNatClampNeg x1))]) (st := []) dX10_linkMinutes_26 kX10_isGoing (sX10_isGoing (d := d - 1) (by omega)) (by omega) rfl (Nat.le_of_ble_eq_true rfl) ew_589 ew_590 ?_
        refine ea_if_eq (pc := 29) (tgt := 86) dX10_linkMinutes_29 rfl (fun c20 => ?_) (fun c20 => ?_)
        · have E := (if_pos c20).symm.trans E
          refine ea_iinc (pc := 86) (v := 1) (lv' := [(0, vR (some (b0 + 13))), (1, vI (x1 + (1 : Int32)))]) dX10_linkMinutes_86 1 rfl rfl (Nat.le_of_ble_eq_true rfl) [1, 0] rfl ?_
          refine ea_goto (pc := 89) (tgt := 10) dX10_linkMinutes_89 rfl ?_
          exact ((ih 10 ((x1 + (1 : Int32)) : Int32) 0 0 h _ _ E hs).2.1 rfl)
        · have E := (if_neg c20).symm.trans E
          refine ea_aload_n (pc := 32) dX10_linkMinutes_32 rfl 0 rfl ?_
          refine ea_iload_n (pc := 33) dX10_linkMinutes_33 rfl 2 rfl ?_
          obtain ⟨z8, E⟩ := gd_some E
          refine ea_callV (pc := 34) (d' := d - 1) (As := [vI (ea_i h (Option.getD (ea_r h (b0 + 13) 3) 0) (Int32.toNatClampNeg x1))]) (st := []) dX10_linkMinutes_34 kX10_townIn (sX10_townIn (d := d - 1) (by omega) hs z8) (by omega) rfl (Nat.le_of_ble_eq_true rfl) ew_592 ew_594 ew_7 (ci := 10) rfl (by decide) (hs.1 13 (by decide)).1 (hs.1 13 (by decide)).2.1 ?_
          refine ea_istore_n (pc := 37) (lv' := [(0, vR (some (b0 + 13))), (1, vI x1), (2, vI (ea_i h (Option.getD (ea_r h (b0 + 13) 3) 0) (Int32.toNatClampNeg x1))), (3, vI (vX10_townIn b0 ((ea_i h (Option.getD (ea_r h (b0 + 13) 3) 0) (Int32.toNatClampNeg x1)) : Int32) h))]) dX10_linkMinutes_37 rfl (Nat.le_of_ble_eq_true rfl) [1, 2, 3, 0] rfl ?_
          refine ea_aload_n (pc := 38) dX10_linkMinutes_38 rfl 0 rfl ?_
          refine ea_getR (pc := 39) dX10_linkMinutes_39 ec_10 (k := 8) (Nat.le_of_ble_eq_true rfl) rfl (Or.inl ew_235) (hs.1 13 (by decide)).1 (hs.1 13 (by decide)).2.1 (hs.2 13 8 rfl) ?_
          refine ea_iload_n (pc := 42) dX10_linkMinutes_42 rfl 3 rfl ?_
          obtain ⟨z9, E⟩ := gd_some E
          refine ea_iald (pc := 43) dX10_linkMinutes_43 (hs.1 15 (by decide)).1 (hs.1 15 (by decide)).2.1 (ea_vpl (hs.1 15 (by decide)).2.2 z9) ?_
          refine ea_iload_n (pc := 44) dX10_linkMinutes_44 rfl 2 rfl ?_
          refine ea_callS (pc := 45) (d' := d - 1) (As := [vI (ea_i h (Option.getD (ea_r h (b0 + 13) 3) 0) (Int32.toNatClampNeg x1))]) (st := [vI (ea_i h (b0 + 15) (Int32.toNatClampNeg (vX10_townIn b0 ((ea_i h (Option.getD (ea_r h (b0 + 13) 3) 0) (Int32.toNatClampNeg x1)) : Int32) h)))]) dX10_linkMinutes_45 kX10_minuteIn (sX10_minuteIn (d := d - 1) (by omega)) (by omega) rfl (Nat.le_of_ble_eq_true rfl) ew_602 ew_603 ?_
          refine ea_icmp_eq (pc := 48) (tgt := 71) dX10_linkMinutes_48 rfl (fun c19 => ?_) (fun c19 => ?_)
          · have E := (if_pos c19).symm.trans E
            exact ((ih 71 (x1 : Int32) ((ea_i h (Option.getD (ea_r h (b0 + 13) 3) 0) (Int32.toNatClampNeg x1)) : Int32) ((vX10_townIn b0 ((ea_i h (Option.getD (ea_r h (b0 + 13) 3) 0) (Int32.toNatClampNeg x1)) : Int32) h) : Int32) h _ _ E hs).2.2 rfl)
          · have E := (if_neg c19).symm.trans E
            refine ea_aload_n (pc := 51) dX10_linkMinutes_51 rfl 0 rfl ?_
            refine ea_getR (pc := 52) dX10_linkMinutes_52 ec_10 (k := 8) (Nat.le_of_ble_eq_true rfl) rfl (Or.inl ew_235) (hs.1 13 (by decide)).1 (hs.1 13 (by decide)).2.1 (hs.2 13 8 rfl) ?_
            refine ea_iload_n (pc := 55) dX10_linkMinutes_55 rfl 3 rfl ?_
            refine ea_iload_n (pc := 56) dX10_linkMinutes_56 rfl 2 rfl ?_
            refine ea_callS (pc := 57) (d' := d - 1) (As := [vI (ea_i h (Option.getD (ea_r h (b0 + 13) 3) 0) (Int32.toNatClampNeg x1))]) (st := [vI (vX10_townIn b0 ((ea_i h (Option.getD (ea_r h (b0 + 13) 3) 0) (Int32.toNatClampNeg x1)) : Int32) h), vR (some (b0 + 15))]) dX10_linkMinutes_57 kX10_minuteIn (sX10_minuteIn (d := d - 1) (by omega)) (by omega) rfl (Nat.le_of_ble_eq_true rfl) ew_602 ew_603 ?_
            obtain ⟨z12, E⟩ := gd_some E
            refine ea_iast (pc := 60) dX10_linkMinutes_60 (hs.1 15 (by decide)).1 (hs.1 15 (by decide)).2.1 (ea_vpl (hs.1 15 (by decide)).2.2 z12) ?_
            have hs13 : ShC b0 (ea_wi h (b0 + 15) (Int32.toNatClampNeg (vX10_townIn b0 ((ea_i h (Option.getD (ea_r h (b0 + 13) 3) 0) (Int32.toNatClampNeg x1)) : Int32) h)) (vX10_minuteIn ((ea_i h (Option.getD (ea_r h (b0 + 13) 3) 0) (Int32.toNatClampNeg x1)) : Int32) h)) := ShC_wi hs
            obtain ⟨H14, eH14, E⟩ := let_some E
            refine ea_nm eH14 ?_
            have hsH14 : ShC b0 H14 := by rw [eH14]; exact hs13
            refine ea_aload_n (pc := 61) dX10_linkMinutes_61 rfl 0 rfl ?_
            refine ea_getR (pc := 62) dX10_linkMinutes_62 ec_10 (k := 7) (Nat.le_of_ble_eq_true rfl) rfl (Or.inl ew_234) (hsH14.1 13 (by decide)).1 (hsH14.1 13 (by decide)).2.1 (hsH14.2 13 7 rfl) ?_
            refine ea_iload_n (pc := 65) dX10_linkMinutes_65 rfl 3 rfl ?_
            refine ea_iload_n (pc := 66) dX10_linkMinutes_66 rfl 2 rfl ?_
            refine ea_callS (pc := 67) (d' := d - 1) (As := [vI (ea_i h (Option.getD (ea_r h (b0 + 13) 3) 0) (Int32.toNatClampNeg x1))]) (st := [vI (vX10_townIn b0 ((ea_i h (Option.getD (ea_r h (b0 + 13) 3) 0) (Int32.toNatClampNeg x1)) : Int32) h), vR (some (b0 + 14))]) dX10_linkMinutes_67 kX10_slotIn (sX10_slotIn (d := d - 1) (by omega)) (by omega) rfl (Nat.le_of_ble_eq_true rfl) ew_605 ew_606 ?_
            obtain ⟨z16, E⟩ := gd_some E
            refine ea_iast (pc := 70) dX10_linkMinutes_70 (hsH14.1 14 (by decide)).1 (hsH14.1 14 (by decide)).2.1 (ea_vpl (hsH14.1 14 (by decide)).2.2 z16) ?_
            have hs17 : ShC b0 (ea_wi H14 (b0 + 14) (Int32.toNatClampNeg (vX10_townIn b0 ((ea_i h (Option.getD (ea_r h (b0 + 13) 3) 0) (Int32.toNatClampNeg x1)) : Int32) h)) (vX10_slotIn ((ea_i h (Option.getD (ea_r h (b0 + 13) 3) 0) (Int32.toNatClampNeg x1)) : Int32) H14)) := ShC_wi hsH14
            obtain ⟨H18, eH18, E⟩ := let_some E
            refine ea_nm eH18 ?_
            have hsH18 : ShC b0 H18 := by rw [eH18]; exact hs17
            exact ((ih 71 (x1 : Int32) ((ea_i h (Option.getD (ea_r h (b0 + 13) 3) 0) (Int32.toNatClampNeg x1)) : Int32) ((vX10_townIn b0 ((ea_i h (Option.getD (ea_r h (b0 + 13) 3) 0) (Int32.toNatClampNeg x1)) : Int32) h) : Int32) H18 _ _ E hsH18).2.2 rfl)
    intro el
    subst el
    have E := (if_neg (by decide)).symm.trans E
    have E := (if_neg (by decide)).symm.trans E
    have E := (if_pos rfl).symm.trans E
    refine ea_aload_n (pc := 71) dX10_linkMinutes_71 rfl 0 rfl ?_
    refine ea_getR (pc := 72) dX10_linkMinutes_72 ec_10 (k := 6) (Nat.le_of_ble_eq_true rfl) rfl (Or.inl ew_233) (hs.1 13 (by decide)).1 (hs.1 13 (by decide)).2.1 rfl ?_
    refine ea_iload_n (pc := 75) dX10_linkMinutes_75 rfl 2 rfl ?_
    refine ea_callS (pc := 76) (d' := d - 1) (As := [vI x2]) (st := [vR (ea_r h (b0 + 13) 6)]) dX10_linkMinutes_76 kX10_slotIn (sX10_slotIn (d := d - 1) (by omega)) (by omega) rfl (Nat.le_of_ble_eq_true rfl) ew_605 ew_606 ?_
    refine ea_aload_n (pc := 79) dX10_linkMinutes_79 rfl 0 rfl ?_
    refine ea_getR (pc := 80) dX10_linkMinutes_80 ec_10 (k := 7) (Nat.le_of_ble_eq_true rfl) rfl (Or.inl ew_234) (hs.1 13 (by decide)).1 (hs.1 13 (by decide)).2.1 (hs.2 13 7 rfl) ?_
    refine ea_iload_n (pc := 83) dX10_linkMinutes_83 rfl 3 rfl ?_
    obtain ⟨z23, E⟩ := gd_some E
    refine ea_iald (pc := 84) dX10_linkMinutes_84 (hs.1 14 (by decide)).1 (hs.1 14 (by decide)).2.1 (ea_vpl (hs.1 14 (by decide)).2.2 z23) ?_
    obtain ⟨e24, E⟩ := gd_some E
    obtain ⟨f25, E⟩ := gd_some E
    obtain ⟨z26, E⟩ := gd_some E
    refine ea_deref2 e24 ?_
    refine ea_iast (pc := 85) dX10_linkMinutes_85 f25.1 f25.2 z26 ?_
    have hs27 : ShC b0 (ea_wi h (Option.getD (ea_r h (b0 + 13) 6) 0) (Int32.toNatClampNeg (vX10_slotIn (x2 : Int32) h)) (ea_i h (b0 + 14) (Int32.toNatClampNeg x3))) := ShC_wi hs
    obtain ⟨H28, eH28, E⟩ := let_some E
    refine ea_nm eH28 ?_
    have hsH28 : ShC b0 H28 := by rw [eH28]; exact hs27
    refine ea_iinc (pc := 86) (v := 1) (lv' := [(0, vR (some (b0 + 13))), (1, vI (x1 + (1 : Int32)))]) dX10_linkMinutes_86 1 rfl rfl (Nat.le_of_ble_eq_true rfl) [1, 0] rfl ?_
    refine ea_goto (pc := 89) (tgt := 10) dX10_linkMinutes_89 rfl ?_
    exact ((ih 10 ((x1 + (1 : Int32)) : Int32) 0 0 H28 _ _ E hsH28).2.1 rfl)
noncomputable def qX10_linkMinutes (b0 : Nat) (h : ea_H) : Option (Unit × ea_H) := gX10_linkMinutes b0 1000000000 0 0 0 0 h
def okX10_linkMinutes (b0 : Nat) (h : ea_H) : Prop := ∃ x, qX10_linkMinutes b0 h = some x
noncomputable def wX10_linkMinutes (b0 : Nat) (h : ea_H) : ea_H := ((qX10_linkMinutes b0 h).getD ((), h)).2
theorem sX10_linkMinutes {d : Nat} {b0 : Nat} {h : ea_H} (hd : 3 ≤ d) (hs : ShC b0 h) (K : okX10_linkMinutes b0 h) : ea_Met mX10_linkMinutes d [vR (some (b0 + 13))] h none (wX10_linkMinutes b0 h) := by
  obtain ⟨⟨x, y⟩, K⟩ := K
  unfold wX10_linkMinutes
  rw [K]
  unfold qX10_linkMinutes at K
  exact ea_enter rfl (Nat.le_of_ble_eq_true rfl) ((tX10_linkMinutes hd 1000000000 0 0 0 0 h x y K hs).1 rfl)
theorem zX10_linkMinutes {b0 : Nat} : ∀ (f lbl : Nat) (x1 : Int32) (x2 : Int32) (x3 : Int32) (h : ea_H) (r : Unit) (h' : ea_H), gX10_linkMinutes b0 f lbl x1 x2 x3 h = some (r, h') → ShC b0 h → ShC b0 h' := by
  intro f
  induction f with
  | zero => intro lbl x1 x2 x3 h r h' E; cases E
  | succ f ih =>
    intro lbl x1 x2 x3 h r h' E hs
    unfold gX10_linkMinutes at E
    by_cases el0 : lbl = 0
    · have E := (if_pos el0).symm.trans E
      obtain ⟨z1, E⟩ := gd_some E
      obtain ⟨H3, eH3, E⟩ := let_some E
      have hsH3 : ShC b0 H3 := by rw [eH3]; exact (shJ7_fill_53178 hs)
      exact ih 10 (0 : Int32) 0 0 H3 _ _ E hsH3
    have E := (if_neg el0).symm.trans E
    by_cases el1 : lbl = 10
    · have E := (if_pos el1).symm.trans E
      by_cases c21 : (ea_i h (b0 + 13) 1) ≤ x1
      · have E := (if_pos c21).symm.trans E
        exact ea_shO E hs
      have E := (if_neg c21).symm.trans E
      obtain ⟨e4, E⟩ := gd_some E
      obtain ⟨f5, E⟩ := gd_some E
      obtain ⟨z6, E⟩ := gd_some E
      by_cases c20 : (vX10_isGoing ((ea_i h (Option.getD (ea_r h (b0 + 13) 3) 0) (Int32.toNatClampNeg x1)) : Int32) h) = (0 : Int32)
      · have E := (if_pos c20).symm.trans E
        exact ih 10 ((x1 + (1 : Int32)) : Int32) 0 0 h _ _ E hs
      have E := (if_neg c20).symm.trans E
      obtain ⟨z8, E⟩ := gd_some E
      obtain ⟨z9, E⟩ := gd_some E
      by_cases c19 : (ea_i h (b0 + 15) (Int32.toNatClampNeg (vX10_townIn b0 ((ea_i h (Option.getD (ea_r h (b0 + 13) 3) 0) (Int32.toNatClampNeg x1)) : Int32) h))) = (vX10_minuteIn ((ea_i h (Option.getD (ea_r h (b0 + 13) 3) 0) (Int32.toNatClampNeg x1)) : Int32) h)
      · have E := (if_pos c19).symm.trans E
        exact ih 71 (x1 : Int32) ((ea_i h (Option.getD (ea_r h (b0 + 13) 3) 0) (Int32.toNatClampNeg x1)) : Int32) ((vX10_townIn b0 ((ea_i h (Option.getD (ea_r h (b0 + 13) 3) 0) (Int32.toNatClampNeg x1)) : Int32) h) : Int32) h _ _ E hs
      have E := (if_neg c19).symm.trans E
      obtain ⟨z12, E⟩ := gd_some E
      obtain ⟨H14, eH14, E⟩ := let_some E
      have hsH14 : ShC b0 H14 := by rw [eH14]; exact (ShC_wi hs)
      obtain ⟨z16, E⟩ := gd_some E
      obtain ⟨H18, eH18, E⟩ := let_some E
      have hsH18 : ShC b0 H18 := by rw [eH18]; exact (ShC_wi hsH14)
      exact ih 71 (x1 : Int32) ((ea_i h (Option.getD (ea_r h (b0 + 13) 3) 0) (Int32.toNatClampNeg x1)) : Int32) ((vX10_townIn b0 ((ea_i h (Option.getD (ea_r h (b0 + 13) 3) 0) (Int32.toNatClampNeg x1)) : Int32) h) : Int32) H18 _ _ E hsH18
    have E := (if_neg el1).symm.trans E
    by_cases el2 : lbl = 71
    · have E := (if_pos el2).symm.trans E
      obtain ⟨z23, E⟩ := gd_some E
      obtain ⟨e24, E⟩ := gd_some E
      obtain ⟨f25, E⟩ := gd_some E
      obtain ⟨z26, E⟩ := gd_some E
      obtain ⟨H28, eH28, E⟩ := let_some E
      have hsH28 : ShC b0 H28 := by rw [eH28]; exact (ShC_wi hs)
      exact ih 10 ((x1 + (1 : Int32)) : Int32) 0 0 H28 _ _ E hsH28
    have E := (if_neg el2).symm.trans E
    cases E
theorem shX10_linkMinutes {b0 : Nat} {h : ea_H} (hs : ShC b0 h) : ShC b0 (wX10_linkMinutes b0 h) := by
  unfold wX10_linkMinutes
  cases K : qX10_linkMinutes b0 h with
  | none => exact hs
  | some x => obtain ⟨x, y⟩ := x; unfold qX10_linkMinutes at K; exact zX10_linkMinutes _ _ _ _ _ _ _ _ K hs
noncomputable def gX10_trace (b0 : Nat) : Nat → Nat → Int32 → ea_H → Option (Unit × ea_H)
  | 0, _, _, _ => none
  | f + 1, lbl, x1, h =>
    if lbl = 0 then (gd ((okJ7_fill_d0a16 ((ea_r h (b0 + 13) 5) : Option Nat) (9223372036854775807 : Int64) h)) (ea_let (wJ7_fill_d0a16 ((ea_r h (b0 + 13) 5) : Option Nat) (9223372036854775807 : Int64) h) fun H3 => (gd ((okJ7_fill_53178 ((some (b0 + 14)) : Option Nat) ((-1) : Int32) H3)) (ea_let (wJ7_fill_53178 ((some (b0 + 14)) : Option Nat) ((-1) : Int32) H3) fun H6 => (gX10_trace b0 f 25 (((ea_i H6 (b0 + 13) 1) - (1 : Int32)) : Int32) H6))))) else
    if lbl = 25 then (if x1 < (0 : Int32) then (some ((), h)) else (gd ((ea_r h (b0 + 13) 3) = some (Option.getD (ea_r h (b0 + 13) 3) 0)) (gd (((Option.getD (ea_r h (b0 + 13) 3) 0) < ea_n h ∧ ea_c h (Option.getD (ea_r h (b0 + 13) 3) 0) = 20)) (gd (vp_in x1 (ea_l h (Option.getD (ea_r h (b0 + 13) 3) 0))) (if (vX10_isGoing ((ea_i h (Option.getD (ea_r h (b0 + 13) 3) 0) (Int32.toNatClampNeg x1)) : Int32) h) = (0 : Int32) then (gd ((okX10_townIn b0 ((ea_i h (Option.getD (ea_r h (b0 + 13) 3) 0) (Int32.toNatClampNeg x1)) : Int32) h)) (gd ((okX10_leaveRun b0 ((ea_i h (Option.getD (ea_r h (b0 + 13) 3) 0) (Int32.toNatClampNeg x1)) : Int32) ((vX10_slotIn ((ea_i h (Option.getD (ea_r h (b0 + 13) 3) 0) (Int32.toNatClampNeg x1)) : Int32) h) : Int32) ((vX10_townIn b0 ((ea_i h (Option.getD (ea_r h (b0 + 13) 3) 0) (Int32.toNatClampNeg x1)) : Int32) h) : Int32) h)) (ea_let (wX10_leaveRun b0 ((ea_i h (Option.getD (ea_r h (b0 + 13) 3) 0) (Int32.toNatClampNeg x1)) : Int32) ((vX10_slotIn ((ea_i h (Option.getD (ea_r h (b0 + 13) 3) 0) (Int32.toNatClampNeg x1)) : Int32) h) : Int32) ((vX10_townIn b0 ((ea_i h (Option.getD (ea_r h (b0 + 13) 3) 0) (Int32.toNatClampNeg x1)) : Int32) h) : Int32) h) fun H15 => (gX10_trace b0 f 25 ((x1 + ((-1) : Int32)) : Int32) H15)))) else (gd ((okX10_townIn b0 ((ea_i h (Option.getD (ea_r h (b0 + 13) 3) 0) (Int32.toNatClampNeg x1)) : Int32) h)) (gd ((okX10_takeRun b0 ((ea_i h (Option.getD (ea_r h (b0 + 13) 3) 0) (Int32.toNatClampNeg x1)) : Int32) ((vX10_slotIn ((ea_i h (Option.getD (ea_r h (b0 + 13) 3) 0) (Int32.toNatClampNeg x1)) : Int32) h) : Int32) ((vX10_townIn b0 ((ea_i h (Option.getD (ea_r h (b0 + 13) 3) 0) (Int32.toNatClampNeg x1)) : Int32) h) : Int32) h)) (ea_let (wX10_takeRun b0 ((ea_i h (Option.getD (ea_r h (b0 + 13) 3) 0) (Int32.toNatClampNeg x1)) : Int32) ((vX10_slotIn ((ea_i h (Option.getD (ea_r h (b0 + 13) 3) 0) (Int32.toNatClampNeg x1)) : Int32) h) : Int32) ((vX10_townIn b0 ((ea_i h (Option.getD (ea_r h (b0 + 13) 3) 0) (Int32.toNatClampNeg x1)) : Int32) h) : Int32) h) fun H20 => (gX10_trace b0 f 25 ((x1 + ((-1) : Int32)) : Int32) H20))))))))) else none
theorem tX10_trace {d : Nat} {b0 : Nat} {h0 : ea_H} (hd : 3 ≤ d) : ∀ (f lbl : Nat) (x1 : Int32) (h : ea_H) (r : Unit) (h' : ea_H), gX10_trace b0 f lbl x1 h = some (r, h') → ShC b0 h → (lbl = 0 → ea_W mX10_trace d h0 none h' 0 [(0, vR (some (b0 + 13)))] [] h) ∧ (lbl = 25 → ea_W mX10_trace d h0 none h' 25 [(0, vR (some (b0 + 13))), (1, vI x1)] [] h) := by
  intro f
  induction f with
  | zero => intro lbl x1 h r h' E; cases E
  | succ f ih =>
    intro lbl x1 h r h' E hs
    unfold gX10_trace at E
    refine ⟨?_, ?_⟩
    · intro el
      subst el
      have E := (if_pos rfl).symm.trans E
      refine ea_aload_n (pc := 0) dX10_trace_0 rfl 0 rfl ?_
      refine ea_getR (pc := 1) dX10_trace_1 ec_10 (k := 5) (Nat.le_of_ble_eq_true rfl) rfl (Or.inl ew_232) (hs.1 13 (by decide)).1 (hs.1 13 (by decide)).2.1 rfl ?_
      refine ea_ldc2 (pc := 4) dX10_trace_4 ew_615 ?_
      obtain ⟨z1, E⟩ := gd_some E
      refine ea_callS (pc := 7) (d' := d - 1) (As := [vR (ea_r h (b0 + 13) 5), vJ 9223372036854775807]) (st := []) dX10_trace_7 kJ7_fill_d0a16 (sJ7_fill_d0a16 (d := d - 1) (by omega) z1) (by omega) rfl (Nat.le_of_ble_eq_true rfl) ew_616 ew_617 ?_
      have hs2 : ShC b0 (wJ7_fill_d0a16 ((ea_r h (b0 + 13) 5) : Option Nat) (9223372036854775807 : Int64) h) := shJ7_fill_d0a16 hs
      obtain ⟨H3, eH3, E⟩ := let_some E
      refine ea_nm eH3 ?_
      have hsH3 : ShC b0 H3 := by rw [eH3]; exact hs2
      refine ea_aload_n (pc := 10) dX10_trace_10 rfl 0 rfl ?_
      refine ea_getR (pc := 11) dX10_trace_11 ec_10 (k := 7) (Nat.le_of_ble_eq_true rfl) rfl (Or.inl ew_234) (hsH3.1 13 (by decide)).1 (hsH3.1 13 (by decide)).2.1 (hsH3.2 13 7 rfl) ?_
      refine ea_iconst (pc := 14) dX10_trace_14 (v := (-1)) rfl ?_
      obtain ⟨z4, E⟩ := gd_some E
      refine ea_callS (pc := 15) (d' := d - 1) (As := [vR (some (b0 + 14)), vI (-1)]) (st := []) dX10_trace_15 kJ7_fill_53178 (sJ7_fill_53178 (d := d - 1) (by omega) z4) (by omega) rfl (Nat.le_of_ble_eq_true rfl) ew_588 ew_144 ?_
      have hs5 : ShC b0 (wJ7_fill_53178 ((some (b0 + 14)) : Option Nat) ((-1) : Int32) H3) := shJ7_fill_53178 hsH3
      obtain ⟨H6, eH6, E⟩ := let_some E
      refine ea_nm eH6 ?_
      have hsH6 : ShC b0 H6 := by rw [eH6]; exact hs5
      refine ea_aload_n (pc := 18) dX10_trace_18 rfl 0 rfl ?_
      refine ea_getI (pc := 19) dX10_trace_19 ec_10 (k := 1) (Nat.le_of_ble_eq_true rfl) rfl (Or.inl ew_227) (hsH6.1 13 (by decide)).1 (hsH6.1 13 (by decide)).2.1 ?_
      refine ea_iconst (pc := 22) dX10_trace_22 (v := 1) rfl ?_
      refine ea_isub (pc := 23) dX10_trace_23 ?_
      refine ea_istore_n (pc := 24) (lv' := [(0, vR (some (b0 + 13))), (1, vI ((ea_i H6 (b0 + 13) 1) - (1 : Int32)))]) dX10_trace_24 rfl (Nat.le_of_ble_eq_true rfl) [1, 0] rfl ?_
      exact ((ih 25 (((ea_i H6 (b0 + 13) 1) - (1 : Int32)) : Int32) H6 _ _ E hsH6).2 rfl)
    intro el
    subst el
    have E := (if_neg (by decide)).symm.trans E
    have E := (if_pos rfl).symm.trans E
    refine ea_iload_n (pc := 25) dX10_trace_25 rfl 1 rfl ?_
    refine ea_if_lt (pc := 26) (tgt := 80) dX10_trace_26 rfl (fun c22 => ?_) (fun c22 => ?_)
    · have E := (if_pos c22).symm.trans E
      exact ea_vretO (pc := 80) dX10_trace_80 rfl E
    · have E := (if_neg c22).symm.trans E
      refine ea_aload_n (pc := 29) dX10_trace_29 rfl 0 rfl ?_
      refine ea_getR (pc := 30) dX10_trace_30 ec_10 (k := 3) (Nat.le_of_ble_eq_true rfl) rfl (Or.inl ew_230) (hs.1 13 (by decide)).1 (hs.1 13 (by decide)).2.1 rfl ?_
      refine ea_iload_n (pc := 33) dX10_trace_33 rfl 1 rfl ?_
      obtain ⟨e7, E⟩ := gd_some E
      obtain ⟨f8, E⟩ := gd_some E
      obtain ⟨z9, E⟩ := gd_some E
      refine ea_deref1 e7 ?_
      refine ea_iald (pc := 34) dX10_trace_34 f8.1 f8.2 z9 ?_
      refine ea_istore_n (pc := 35) (lv' := [(0, vR (some (b0 + 13))), (1, vI x1), (2, vI (ea_i h (Option.getD (ea_r h (b0 + 13) 3) 0) (Int32.toNatClampNeg x1)))]) dX10_trace_35 rfl (Nat.le_of_ble_eq_true rfl) [1, 2, 0] rfl ?_
      refine ea_iload_n (pc := 36) dX10_trace_36 rfl 2 rfl ?_
      refine ea_callS (pc := 37) (d' := d - 1) (As := [vI (ea_i h (Option.getD (ea_r h (b0 + 13) 3) 0) (Int32.toNatClampNeg x1))]) (st := []) dX10_trace_37 kX10_isGoing (sX10_isGoing (d := d - 1) (by omega)) (by omega) rfl (Nat.le_of_ble_eq_true rfl) ew_589 ew_590 ?_
      refine ea_if_eq (pc := 40) (tgt := 60) dX10_trace_40 rfl (fun c21 => ?_) (fun c21 => ?_)
      · have E := (if_pos c21).symm.trans E
        refine ea_aload_n (pc := 60) dX10_trace_60 rfl 0 rfl ?_
        refine ea_iload_n (pc := 61) dX10_trace_61 rfl 2 rfl ?_
        refine ea_iload_n (pc := 62) dX10_trace_62 rfl 2 rfl ?_
        refine ea_callS (pc := 63) (d' := d - 1) (As := [vI (ea_i h (Option.getD (ea_r h (b0 + 13) 3) 0) (Int32.toNatClampNeg x1))]) (st := [vI (ea_i h (Option.getD (ea_r h (b0 + 13) 3) 0) (Int32.toNatClampNeg x1)), vR (some (b0 + 13))]) dX10_trace_63 kX10_slotIn (sX10_slotIn (d := d - 1) (by omega)) (by omega) rfl (Nat.le_of_ble_eq_true rfl) ew_605 ew_606 ?_
        refine ea_aload_n (pc := 66) dX10_trace_66 rfl 0 rfl ?_
        refine ea_iload_n (pc := 67) dX10_trace_67 rfl 2 rfl ?_
        obtain ⟨z12, E⟩ := gd_some E
        refine ea_callV (pc := 68) (d' := d - 1) (As := [vI (ea_i h (Option.getD (ea_r h (b0 + 13) 3) 0) (Int32.toNatClampNeg x1))]) (st := [vI (vX10_slotIn ((ea_i h (Option.getD (ea_r h (b0 + 13) 3) 0) (Int32.toNatClampNeg x1)) : Int32) h), vI (ea_i h (Option.getD (ea_r h (b0 + 13) 3) 0) (Int32.toNatClampNeg x1)), vR (some (b0 + 13))]) dX10_trace_68 kX10_townIn (sX10_townIn (d := d - 1) (by omega) hs z12) (by omega) rfl (Nat.le_of_ble_eq_true rfl) ew_592 ew_594 ew_7 (ci := 10) rfl (by decide) (hs.1 13 (by decide)).1 (hs.1 13 (by decide)).2.1 ?_
        obtain ⟨z13, E⟩ := gd_some E
        refine ea_callV (pc := 71) (d' := d - 1) (As := [vI (ea_i h (Option.getD (ea_r h (b0 + 13) 3) 0) (Int32.toNatClampNeg x1)), vI (vX10_slotIn ((ea_i h (Option.getD (ea_r h (b0 + 13) 3) 0) (Int32.toNatClampNeg x1)) : Int32) h), vI (vX10_townIn b0 ((ea_i h (Option.getD (ea_r h (b0 + 13) 3) 0) (Int32.toNatClampNeg x1)) : Int32) h)]) (st := []) dX10_trace_71 kX10_leaveRun (sX10_leaveRun (d := d - 1) (by omega) hs z13) (by omega) rfl (Nat.le_of_ble_eq_true rfl) ew_626 ew_628 ew_10 (ci := 10) rfl (by decide) (hs.1 13 (by decide)).1 (hs.1 13 (by decide)).2.1 ?_
        have hs14 : ShC b0 (wX10_leaveRun b0 ((ea_i h (Option.getD (ea_r h (b0 + 13) 3) 0) (Int32.toNatClampNeg x1)) : Int32) ((vX10_slotIn ((ea_i h (Option.getD (ea_r h (b0 + 13) 3) 0) (Int32.toNatClampNeg x1)) : Int32) h) : Int32) ((vX10_townIn b0 ((ea_i h (Option.getD (ea_r h (b0 + 13) 3) 0) (Int32.toNatClampNeg x1)) : Int32) h) : Int32) h) := shX10_leaveRun hs
        obtain ⟨H15, eH15, E⟩ := let_some E
        refine ea_nm eH15 ?_
        have hsH15 : ShC b0 H15 := by rw [eH15]; exact hs14
        refine ea_iinc (pc := 74) (v := (-1)) (lv' := [(0, vR (some (b0 + 13))), (1, vI (x1 + ((-1) : Int32)))]) dX10_trace_74 1 rfl rfl (Nat.le_of_ble_eq_true rfl) [1, 0] rfl ?_
        refine ea_goto (pc := 77) (tgt := 25) dX10_trace_77 rfl ?_
        exact ((ih 25 ((x1 + ((-1) : Int32)) : Int32) H15 _ _ E hsH15).2 rfl)
      · have E := (if_neg c21).symm.trans E
        refine ea_aload_n (pc := 43) dX10_trace_43 rfl 0 rfl ?_
        refine ea_iload_n (pc := 44) dX10_trace_44 rfl 2 rfl ?_
        refine ea_iload_n (pc := 45) dX10_trace_45 rfl 2 rfl ?_
        refine ea_callS (pc := 46) (d' := d - 1) (As := [vI (ea_i h (Option.getD (ea_r h (b0 + 13) 3) 0) (Int32.toNatClampNeg x1))]) (st := [vI (ea_i h (Option.getD (ea_r h (b0 + 13) 3) 0) (Int32.toNatClampNeg x1)), vR (some (b0 + 13))]) dX10_trace_46 kX10_slotIn (sX10_slotIn (d := d - 1) (by omega)) (by omega) rfl (Nat.le_of_ble_eq_true rfl) ew_605 ew_606 ?_
        refine ea_aload_n (pc := 49) dX10_trace_49 rfl 0 rfl ?_
        refine ea_iload_n (pc := 50) dX10_trace_50 rfl 2 rfl ?_
        obtain ⟨z17, E⟩ := gd_some E
        refine ea_callV (pc := 51) (d' := d - 1) (As := [vI (ea_i h (Option.getD (ea_r h (b0 + 13) 3) 0) (Int32.toNatClampNeg x1))]) (st := [vI (vX10_slotIn ((ea_i h (Option.getD (ea_r h (b0 + 13) 3) 0) (Int32.toNatClampNeg x1)) : Int32) h), vI (ea_i h (Option.getD (ea_r h (b0 + 13) 3) 0) (Int32.toNatClampNeg x1)), vR (some (b0 + 13))]) dX10_trace_51 kX10_townIn (sX10_townIn (d := d - 1) (by omega) hs z17) (by omega) rfl (Nat.le_of_ble_eq_true rfl) ew_592 ew_594 ew_7 (ci := 10) rfl (by decide) (hs.1 13 (by decide)).1 (hs.1 13 (by decide)).2.1 ?_
        obtain ⟨z18, E⟩ := gd_some E
        refine ea_callV (pc := 54) (d' := d - 1) (As := [vI (ea_i h (Option.getD (ea_r h (b0 + 13) 3) 0) (Int32.toNatClampNeg x1)), vI (vX10_slotIn ((ea_i h (Option.getD (ea_r h (b0 + 13) 3) 0) (Int32.toNatClampNeg x1)) : Int32) h), vI (vX10_townIn b0 ((ea_i h (Option.getD (ea_r h (b0 + 13) 3) 0) (Int32.toNatClampNeg x1)) : Int32) h)]) (st := []) dX10_trace_54 kX10_takeRun (sX10_takeRun (d := d - 1) (by omega) hs z18) (by omega) rfl (Nat.le_of_ble_eq_true rfl) ew_619 ew_621 ew_9 (ci := 10) rfl (by decide) (hs.1 13 (by decide)).1 (hs.1 13 (by decide)).2.1 ?_
        have hs19 : ShC b0 (wX10_takeRun b0 ((ea_i h (Option.getD (ea_r h (b0 + 13) 3) 0) (Int32.toNatClampNeg x1)) : Int32) ((vX10_slotIn ((ea_i h (Option.getD (ea_r h (b0 + 13) 3) 0) (Int32.toNatClampNeg x1)) : Int32) h) : Int32) ((vX10_townIn b0 ((ea_i h (Option.getD (ea_r h (b0 + 13) 3) 0) (Int32.toNatClampNeg x1)) : Int32) h) : Int32) h) := shX10_takeRun hs
        obtain ⟨H20, eH20, E⟩ := let_some E
        refine ea_nm eH20 ?_
        have hsH20 : ShC b0 H20 := by rw [eH20]; exact hs19
        refine ea_goto (pc := 57) (tgt := 74) dX10_trace_57 rfl ?_
        refine ea_iinc (pc := 74) (v := (-1)) (lv' := [(0, vR (some (b0 + 13))), (1, vI (x1 + ((-1) : Int32)))]) dX10_trace_74 1 rfl rfl (Nat.le_of_ble_eq_true rfl) [1, 0] rfl ?_
        refine ea_goto (pc := 77) (tgt := 25) dX10_trace_77 rfl ?_
        exact ((ih 25 ((x1 + ((-1) : Int32)) : Int32) H20 _ _ E hsH20).2 rfl)
noncomputable def qX10_trace (b0 : Nat) (h : ea_H) : Option (Unit × ea_H) := gX10_trace b0 1000000000 0 0 h
def okX10_trace (b0 : Nat) (h : ea_H) : Prop := ∃ x, qX10_trace b0 h = some x
noncomputable def wX10_trace (b0 : Nat) (h : ea_H) : ea_H := ((qX10_trace b0 h).getD ((), h)).2
theorem sX10_trace {d : Nat} {b0 : Nat} {h : ea_H} (hd : 3 ≤ d) (hs : ShC b0 h) (K : okX10_trace b0 h) : ea_Met mX10_trace d [vR (some (b0 + 13))] h none (wX10_trace b0 h) := by
  obtain ⟨⟨x, y⟩, K⟩ := K
  unfold wX10_trace
  rw [K]
  unfold qX10_trace at K
  exact ea_enter rfl (Nat.le_of_ble_eq_true rfl) ((tX10_trace hd 1000000000 0 0 h x y K hs).1 rfl)
