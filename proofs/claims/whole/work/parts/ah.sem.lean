/-! trials: the bags copied; an outcome -/
theorem fq_wa {A : List (Nat × Nat)} {B : List ((Nat × Nat) × Nat × Nat)} {h : ea_H} {a : Nat} {f : Nat → Int32} (ha : inB A a = true) : fq A B h (ea_wa h a f) := by
  refine ⟨rfl, fun b hb k _ => ?_, fun b hb k => hJ_wa h a b k f⟩
  rw [hI_wa, if_neg]
  intro z
  rw [z, ha] at hb
  cases hb
section OUT
variable {T : Nat → Nat → Nat → Nat} {L : List Nat} {G X Y : Nat → Nat → Int} {m n p : Nat} {h h' : ea_H}
theorem wa_cp {H : ea_H} {s d n : Nat} {x : Int32} (hn : x.toNatClampNeg = n) (q : H = ea_wa h d (va_cpy (ea_i h s) (ea_i h d) (Int32.toNatClampNeg 0) (Int32.toNatClampNeg 0) (Int32.toNatClampNeg x))) : fq [(d, d)] [] h H ∧ ∀ j, j < n → hI H d j = hI h s j := by
  rw [hn] at q
  refine ⟨q ▸ fq_wa (inB_at (r := (d, d)) List.mem_cons_self (Nat.le_refl _) (Nat.le_refl _)), fun j hj => ?_⟩
  rw [q, hI_wa, if_pos rfl]
  show (va_cpy (ea_i h s) (ea_i h d) 0 0 n j).toInt = _
  unfold va_cpy
  simp only [Nat.zero_add, Nat.sub_zero, Nat.zero_le, true_and]
  rw [if_pos (by omega)]
  rfl
theorem c_copy (hs : ShC h) (rc : RC52 m X h) (o67 : ∀ k, hI h 67 k = 0 ∨ hI h 67 k = 1) : sat (qX1_copy_at62 (some 52) h) fun y => fq [(63, 71)] [((62, 62), 0, 0), ((62, 62), 10, 10)] h y.2 ∧ RC62 m X y.2 := by
  obtain ⟨⟨r0, r1⟩, r2, r3, r4, r5, r6, r7⟩ := rc
  unfold qX1_copy_at62 BX1_copy_at62_0
  dsimp only [Option.getD]
  refine sat_gd rfl (sat_gd ⟨(hs.1 52 (by decide)).1, (hs.1 52 (by decide)).2.1⟩ (sat_let fun H3 q3 => ?_))
  have F3 : fq [(63, 71)] [((62, 62), 0, 0), ((62, 62), 10, 10)] h H3 := q3 ▸ fq_wf rfl
  have hs3 := ShC_core F3.1 hs
  refine sat_gd rfl (sat_gd ⟨(hs3.1 52 (by decide)).1, (hs3.1 52 (by decide)).2.1⟩ (sat_let fun H6 q6 => ?_))
  have F6 : fq [(63, 71)] [((62, 62), 0, 0), ((62, 62), 10, 10)] h H6 := F3.tr (q6 ▸ fq_wf rfl)
  have hs6 := ShC_core F6.1 hs
  refine sat_gd rfl (sat_gd ⟨(hs6.1 52 (by decide)).1, (hs6.1 52 (by decide)).2.1⟩ ?_)
  rw [rShC_52_1 hs6]
  dsimp only [Option.getD]
  refine (sat_gd rfl (sat_gd ⟨(hs6.1 53 (by decide)).1, (hs6.1 53 (by decide)).2.1⟩ (sat_gd (by decide) (sat_gd (by decide) (sat_gd (by decide) (sat_gd (by rw [show ea_l H6 53 = 120 from (hs6.1 53 (by decide)).2.2]; decide) (sat_gd (by rw [show ea_l H6 63 = 120 from (hs6.1 63 (by decide)).2.2]; decide) (sat_let fun H17 q17 => ?_))))))))
  obtain ⟨f17, c17⟩ := wa_cp (n := 120) rfl q17
  have F17 : fq [(63, 71)] [((62, 62), 0, 0), ((62, 62), 10, 10)] h H17 := F6.tr (f17.up rfl rfl)
  have hs17 := ShC_core F17.1 hs
  refine sat_gd rfl (sat_gd ⟨(hs17.1 52 (by decide)).1, (hs17.1 52 (by decide)).2.1⟩ ?_)
  rw [rShC_52_2 hs17]
  dsimp only [Option.getD]
  refine (sat_gd rfl (sat_gd ⟨(hs17.1 54 (by decide)).1, (hs17.1 54 (by decide)).2.1⟩ (sat_gd (by decide) (sat_gd (by decide) (sat_gd (by decide) (sat_gd (by rw [show ea_l H17 54 = 120 from (hs17.1 54 (by decide)).2.2]; decide) (sat_gd (by rw [show ea_l H17 64 = 120 from (hs17.1 64 (by decide)).2.2]; decide) (sat_let fun H28 q28 => ?_))))))))
  obtain ⟨f28, c28⟩ := wa_cp (n := 120) rfl q28
  have F28 : fq [(63, 71)] [((62, 62), 0, 0), ((62, 62), 10, 10)] h H28 := F17.tr (f28.up rfl rfl)
  have hs28 := ShC_core F28.1 hs
  refine sat_gd rfl (sat_gd ⟨(hs28.1 52 (by decide)).1, (hs28.1 52 (by decide)).2.1⟩ ?_)
  rw [rShC_52_3 hs28]
  dsimp only [Option.getD]
  refine (sat_gd rfl (sat_gd ⟨(hs28.1 55 (by decide)).1, (hs28.1 55 (by decide)).2.1⟩ (sat_gd (by decide) (sat_gd (by decide) (sat_gd (by decide) (sat_gd (by rw [show ea_l H28 55 = 120 from (hs28.1 55 (by decide)).2.2]; decide) (sat_gd (by rw [show ea_l H28 65 = 120 from (hs28.1 65 (by decide)).2.2]; decide) (sat_let fun H39 q39 => ?_))))))))
  obtain ⟨f39, c39⟩ := wa_cp (n := 120) rfl q39
  have F39 : fq [(63, 71)] [((62, 62), 0, 0), ((62, 62), 10, 10)] h H39 := F28.tr (f39.up rfl rfl)
  have hs39 := ShC_core F39.1 hs
  refine sat_gd rfl (sat_gd ⟨(hs39.1 52 (by decide)).1, (hs39.1 52 (by decide)).2.1⟩ ?_)
  rw [rShC_52_4 hs39]
  dsimp only [Option.getD]
  refine (sat_gd rfl (sat_gd ⟨(hs39.1 56 (by decide)).1, (hs39.1 56 (by decide)).2.1⟩ (sat_gd (by decide) (sat_gd (by decide) (sat_gd (by decide) (sat_gd (by rw [show ea_l H39 56 = 120 from (hs39.1 56 (by decide)).2.2]; decide) (sat_gd (by rw [show ea_l H39 66 = 120 from (hs39.1 66 (by decide)).2.2]; decide) (sat_let fun H50 q50 => ?_))))))))
  obtain ⟨f50, c50⟩ := wa_cp (n := 120) rfl q50
  have F50 : fq [(63, 71)] [((62, 62), 0, 0), ((62, 62), 10, 10)] h H50 := F39.tr (f50.up rfl rfl)
  have hs50 := ShC_core F50.1 hs
  refine sat_gd rfl (sat_gd ⟨(hs50.1 52 (by decide)).1, (hs50.1 52 (by decide)).2.1⟩ ?_)
  rw [rShC_52_7 hs50]
  dsimp only [Option.getD]
  refine (sat_gd rfl (sat_gd ⟨(hs50.1 59 (by decide)).1, (hs50.1 59 (by decide)).2.1⟩ (sat_gd (by decide) (sat_gd (by decide) (sat_gd (by decide) (sat_gd (by rw [show ea_l H50 59 = 120 from (hs50.1 59 (by decide)).2.2]; decide) (sat_gd (by rw [show ea_l H50 69 = 120 from (hs50.1 69 (by decide)).2.2]; decide) (sat_let fun H61 q61 => ?_))))))))
  obtain ⟨f61, c61⟩ := wa_cp (n := 120) rfl q61
  have F61 : fq [(63, 71)] [((62, 62), 0, 0), ((62, 62), 10, 10)] h H61 := F50.tr (f61.up rfl rfl)
  have hs61 := ShC_core F61.1 hs
  refine sat_gd rfl (sat_gd ⟨(hs61.1 52 (by decide)).1, (hs61.1 52 (by decide)).2.1⟩ ?_)
  rw [rShC_52_5 hs61]
  dsimp only [Option.getD]
  refine (sat_gd rfl (sat_gd ⟨(hs61.1 57 (by decide)).1, (hs61.1 57 (by decide)).2.1⟩ (sat_gd (by decide) (sat_gd (by decide) (sat_gd (by decide) (sat_gd (by rw [show ea_l H61 57 = 120 from (hs61.1 57 (by decide)).2.2]; decide) (sat_gd (by rw [show ea_l H61 67 = 120 from (hs61.1 67 (by decide)).2.2]; decide) (sat_gd (fun i hi => ?_) (sat_let fun H72 q72 => ?_)))))))))
  · rw [n_eq, n_eq]
    show hI H61 57 (0 + i) = 0 ∨ hI H61 57 (0 + i) = 1
    rw [Nat.zero_add, F61.C 57 rfl rfl]
    exact r7 i
  obtain ⟨f72, c72⟩ := wa_cp (n := 120) rfl q72
  have F72 : fq [(63, 71)] [((62, 62), 0, 0), ((62, 62), 10, 10)] h H72 := F61.tr (f72.up rfl rfl)
  have hs72 := ShC_core F72.1 hs
  refine sat_gd rfl (sat_gd ⟨(hs72.1 52 (by decide)).1, (hs72.1 52 (by decide)).2.1⟩ ?_)
  rw [rShC_52_6 hs72]
  dsimp only [Option.getD]
  refine (sat_gd rfl (sat_gd ⟨(hs72.1 58 (by decide)).1, (hs72.1 58 (by decide)).2.1⟩ (sat_gd (by decide) (sat_gd (by decide) (sat_gd (by decide) (sat_gd (by rw [show ea_l H72 58 = 70 from (hs72.1 58 (by decide)).2.2]; decide) (sat_gd (by rw [show ea_l H72 68 = 70 from (hs72.1 68 (by decide)).2.2]; decide) (sat_let fun H83 q83 => ?_))))))))
  obtain ⟨f83, c83⟩ := wa_cp (n := 70) rfl q83
  have F83 : fq [(63, 71)] [((62, 62), 0, 0), ((62, 62), 10, 10)] h H83 := F72.tr (f83.up rfl rfl)
  have hs83 := ShC_core F83.1 hs
  refine sat_gd rfl (sat_gd ⟨(hs83.1 52 (by decide)).1, (hs83.1 52 (by decide)).2.1⟩ ?_)
  rw [rShC_52_9 hs83]
  dsimp only [Option.getD]
  refine (sat_gd rfl (sat_gd ⟨(hs83.1 61 (by decide)).1, (hs83.1 61 (by decide)).2.1⟩ (sat_gd (by decide) (sat_gd (by decide) (sat_gd (by decide) (sat_gd (by rw [show ea_l H83 61 = 70 from (hs83.1 61 (by decide)).2.2]; decide) (sat_gd (by rw [show ea_l H83 71 = 70 from (hs83.1 71 (by decide)).2.2]; decide) (sat_let fun H94 q94 => ?_))))))))
  obtain ⟨f94, c94⟩ := wa_cp (n := 70) rfl q94
  have F94 : fq [(63, 71)] [((62, 62), 0, 0), ((62, 62), 10, 10)] h H94 := F83.tr (f94.up rfl rfl)
  have hs94 := ShC_core F94.1 hs
  refine sat_gd rfl (sat_gd ⟨(hs94.1 52 (by decide)).1, (hs94.1 52 (by decide)).2.1⟩ ?_)
  rw [rShC_52_8 hs94]
  dsimp only [Option.getD]
  refine (sat_gd rfl (sat_gd ⟨(hs94.1 60 (by decide)).1, (hs94.1 60 (by decide)).2.1⟩ (sat_gd (by decide) (sat_gd (by decide) (sat_gd (by decide) (sat_gd (by rw [show ea_l H94 60 = 12 from (hs94.1 60 (by decide)).2.2]; decide) (sat_gd (by rw [show ea_l H94 70 = 12 from (hs94.1 70 (by decide)).2.2]; decide) (sat_let fun H105 q105 => ?_))))))))
  obtain ⟨f105, c105⟩ := wa_cp (n := 12) rfl q105
  have F105 : fq [(63, 71)] [((62, 62), 0, 0), ((62, 62), 10, 10)] h H105 := F94.tr (f105.up rfl rfl)
  have V63 : ∀ j, j < 120 → hI H105 63 j = hI h 53 j := fun j hj => by rw [f105.C 63 rfl rfl, f94.C 63 rfl rfl, f83.C 63 rfl rfl, f72.C 63 rfl rfl, f61.C 63 rfl rfl, f50.C 63 rfl rfl, f39.C 63 rfl rfl, f28.C 63 rfl rfl, c17 j hj, F6.C 53 rfl rfl]
  have V64 : ∀ j, j < 120 → hI H105 64 j = hI h 54 j := fun j hj => by rw [f105.C 64 rfl rfl, f94.C 64 rfl rfl, f83.C 64 rfl rfl, f72.C 64 rfl rfl, f61.C 64 rfl rfl, f50.C 64 rfl rfl, f39.C 64 rfl rfl, c28 j hj, F17.C 54 rfl rfl]
  have V65 : ∀ j, j < 120 → hI H105 65 j = hI h 55 j := fun j hj => by rw [f105.C 65 rfl rfl, f94.C 65 rfl rfl, f83.C 65 rfl rfl, f72.C 65 rfl rfl, f61.C 65 rfl rfl, f50.C 65 rfl rfl, c39 j hj, F28.C 55 rfl rfl]
  have V66 : ∀ j, j < 120 → hI H105 66 j = hI h 56 j := fun j hj => by rw [f105.C 66 rfl rfl, f94.C 66 rfl rfl, f83.C 66 rfl rfl, f72.C 66 rfl rfl, f61.C 66 rfl rfl, c50 j hj, F39.C 56 rfl rfl]
  have V69 : ∀ j, j < 120 → hI H105 69 j = hI h 59 j := fun j hj => by rw [f105.C 69 rfl rfl, f94.C 69 rfl rfl, f83.C 69 rfl rfl, f72.C 69 rfl rfl, c61 j hj, F50.C 59 rfl rfl]
  have V67 : ∀ j, j < 120 → hI H105 67 j = hI h 57 j := fun j hj => by rw [f105.C 67 rfl rfl, f94.C 67 rfl rfl, f83.C 67 rfl rfl, c72 j hj, F61.C 57 rfl rfl]
  have V68 : ∀ j, j < 70 → hI H105 68 j = hI h 58 j := fun j hj => by rw [f105.C 68 rfl rfl, f94.C 68 rfl rfl, c83 j hj, F72.C 58 rfl rfl]
  have V71 : ∀ j, j < 70 → hI H105 71 j = hI h 61 j := fun j hj => by rw [f105.C 71 rfl rfl, c94 j hj, F83.C 61 rfl rfl]
  have V70 : ∀ j, j < 12 → hI H105 70 j = hI h 60 j := fun j hj => by rw [c105 j hj, F94.C 60 rfl rfl]
  have K67 : ∀ j, ¬ j < 120 → hI H105 67 j = hI h 67 j := fun j hj => by
    rw [f105.C 67 rfl rfl, f94.C 67 rfl rfl, f83.C 67 rfl rfl, q72, hI_wa, if_pos rfl]
    show (va_cpy (ea_i H61 57) (ea_i H61 67) 0 0 120 j).toInt = _
    unfold va_cpy
    simp only [Nat.zero_add, Nat.sub_zero, Nat.zero_le, true_and]
    rw [if_neg (by omega)]
    show hI H61 67 j = _
    rw [f61.C 67 rfl rfl, f50.C 67 rfl rfl, f39.C 67 rfl rfl, f28.C 67 rfl rfl, f17.C 67 rfl rfl, q6, hI_ne (by decide), q3, hI_ne (by decide)]
  have v0 : hI H3 62 0 = hI h 52 0 := by
    rw [q3, hI_at]
    rfl
  have w0 : hI H105 62 0 = hI h 52 0 := by rw [f105.C 62 rfl rfl, f94.C 62 rfl rfl, f83.C 62 rfl rfl, f72.C 62 rfl rfl, f61.C 62 rfl rfl, f50.C 62 rfl rfl, f39.C 62 rfl rfl, f28.C 62 rfl rfl, f17.C 62 rfl rfl, q6, hI_nk (by decide), v0]
  have w10 : hI H105 62 10 = hI h 52 10 := by
    have : (ea_i H3 52 10).toInt = hI h 52 10 := by
      rw [q3, i_ne (by decide)]
      rfl
    rw [f105.C 62 rfl rfl, f94.C 62 rfl rfl, f83.C 62 rfl rfl, f72.C 62 rfl rfl, f61.C 62 rfl rfl, f50.C 62 rfl rfl, f39.C 62 rfl rfl, f28.C 62 rfl rfl, f17.C 62 rfl rfl, q6, hI_at, this]
  refine sat_ret ⟨F105, ⟨w0.trans r0, r1⟩, fun l hl => ?_, fun r hr => (V68 r hr).trans (r3 r hr), fun a ha => (V70 a ha).trans (r4 a ha), fun r hr => (V71 r hr).trans (r5 r hr), w10.trans r6, fun k => ?_⟩
  · show hI H105 63 l = _ ∧ hI H105 64 l = _ ∧ hI H105 66 l = _ ∧ (_ → hI H105 65 l = _ ∧ hI H105 67 l = _) ∧ (_ → hI H105 69 l = _)
    rw [V63 l (by omega), V64 l (by omega), V65 l (by omega), V66 l (by omega), V67 l (by omega), V69 l (by omega)]
    exact r2 l hl
  · show hI H105 67 k = 0 ∨ hI H105 67 k = 1
    by_cases z : k < 120
    · rw [V67 k z]
      exact r7 k
    · rw [K67 k z]
      exact o67 k
/-- an outcome: the sum of minutes if all goes on so -/
theorem c_outcome (ok : tOk T) (hs : ShC h) (hT : CTab h T) (wc : SWyC h T) (gc : GC G h) (hG : G 7 0 = m) (rc : RC52 m X h) (o67 : ∀ k, hI h 67 k = 0 ∨ hI h 67 k = 1) (hL : tList T L) {now : Nat} (e14 : hI h 0 14 = now) (n1 : now ≤ 10079) (hp : fstB L now p) (hX : XOk T m (fun _ => 2 + (p : Int)) X) :
    sat (qX11_outcome h) fun y => fq [(13, 17), (22, 22), (63, 71)] [((62, 62), 0, 0), ((62, 62), 10, 10)] h y.2 ∧ SWyC y.2 T ∧ (∀ k, hI y.2 67 k = 0 ∨ hI y.2 67 k = 1) ∧ y.1.toInt = smX (caX T L G 10079 (L.drop p) now X) m := by
  have h980 := t_len2 ok hL
  have hp1 := hp.1
  unfold qX11_outcome BX11_outcome_0
  refine sat_bind (c_refresh ok hs hT wc) fun w1 hw1 => ?_
  obtain ⟨f1, k1, k2⟩ := hw1
  have wy := k2
  obtain ⟨L2, l1, l2, l3, l4⟩ := k2
  have eL := t_uniq l1 hL
  subst eL
  have F1 : fq [(13, 17), (22, 22), (63, 71)] [((62, 62), 0, 0), ((62, 62), 10, 10)] h w1.2 := fq_fr f1 fun a ha => inB_sub (A := [(13, 17), (22, 22), (63, 71)]) rfl a ha
  have G1 : fq [(13, 17)] [] h w1.2 := fq_fr f1 fun a ha => ha
  have hs1 := ShC_core F1.1 hs
  have rc1 : RC52 m X w1.2 := rc.kq (G1.kq rfl)
  refine sat_bind (c_copy hs1 rc1 fun k => or01 (G1.C 67 rfl rfl k) (o67 k)) fun w2 hw2 => ?_
  obtain ⟨f2, rc2⟩ := hw2
  have F2 := F1.tr (f2.up rfl rfl : fq [(13, 17), (22, 22), (63, 71)] [((62, 62), 0, 0), ((62, 62), 10, 10)] w1.2 w2.2)
  have g2 : gCx T L2 G w2.2 := ⟨ShC_core f2.1 hs1, hT.kq (F2.kq rfl), gc.kq (F2.kq rfl), ⟨(f2.C 13 rfl rfl 1).trans l2, fun j hj => (f2.C 14 rfl rfl j).trans (l3 j hj)⟩, fun j hj => by rw [f2.J 15 rfl]; exact l4 j hj⟩
  refine sat_bind (c_carry62 (bg := now) (up := 10079) (p := p) (b := 2 + (p : Int)) ok hL hG (by omega) (by omega) hp ((F2.I 0 rfl 14 rfl).trans e14) l_10079 (by omega) hX g2 rc2) fun w3 hw3 => ?_
  obtain ⟨f3, g3, rc3⟩ := hw3
  have XO := caX_ok (T := T) (L := L2) (G := G) (m := m) (up := 10079) ok hL hG (by omega) (L2.drop p) now X (2 + (p : Int)) (fun x hx => List.mem_of_mem_drop hx) (by omega) hX
  refine sat_bind (c_sum62 XO rc3) fun w4 hw4 => sat_ret ?_
  obtain ⟨e4, v4⟩ := hw4
  have e4 : w4.2 = w3.2 := e4
  have F3 := F2.tr (f3.up rfl rfl : fq [(13, 17), (22, 22), (63, 71)] [((62, 62), 0, 0), ((62, 62), 10, 10)] w2.2 w3.2)
  show fq _ _ h w4.2 ∧ SWyC w4.2 T ∧ (∀ k, hI w4.2 67 k = 0 ∨ hI w4.2 67 k = 1) ∧ _
  rw [e4]
  exact ⟨F3, Or.inr ⟨(f3.C 13 rfl rfl 0).trans ((f2.C 13 rfl rfl 0).trans k1), L2, l1, (f3.C 13 rfl rfl 1).trans ((f2.C 13 rfl rfl 1).trans l2), fun j hj => (f3.C 14 rfl rfl j).trans ((f2.C 14 rfl rfl j).trans (l3 j hj)), g3.2.2.2.2⟩, rc3.2.2.2.2.2.2, v4⟩
end OUT
