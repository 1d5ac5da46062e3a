section CPP
variable {T : Nat → Nat → Nat → Nat} {G X : Nat → Nat → Int} {m n : Nat} {h : ea_H}
/-- what the class has of the new letter; what the reference has -/
def poA (h : ea_H) (m : Nat) (X : Nat → Nat → Int) (now a : Int) (yA : ea_H) : Prop := fq [(29, 30), (53, 54), (60, 60)] [((0, 0), 15, 15), ((52, 52), 0, 0), ((52, 52), 10, 10), ((76, 315), 0, 17)] h yA ∧ hI yA 0 15 = 0 ∧ (∀ c k, 76 ≤ c → c ≤ 315 → c ≠ 76 + 2 * m → hI yA c k = hI h c k) ∧ hI yA (76 + 2 * m) 15 = hI h (76 + 2 * m) 15 ∧ hI yA (76 + 2 * m) 18 = hI h (76 + 2 * m) 18 ∧ RC52 (m + 1) (nX X m now a) yA ∧ RN (m + 1) (nX X m now a) yA
def poB (hB : ea_H) (m : Nat) (X : Nat → Nat → Int) (now a : Int) (yB : ea_H) : Prop := fq [(335, 335), (363, 376), (378, 379), (381, 383), (385, 385), (388, 391)] [((326, 326), 63, 63)] hB yB ∧ (∀ j, j ≠ m → ∀ c, 364 ≤ c → c ≤ 379 → c ≠ 376 → hI yB c j = hI hB c j) ∧ RM0 (m + 1) (nX X m now a) yB
theorem ls_post (hs : ShC h) (bs : SBas h n) (rd : SRd h n) (ac : SAc h) (rc : RC52 m X h) (rn : RN m X h) (rm : RM0 m X h) (b7 : ∀ l, l < m → 1 ≤ X 7 l ∧ X 7 l ≤ 1000) (nw : SNw h m X) (sl : SLs h m) {x1 x2 x3 x4 x5 x6 : Int32} (co : poC n m x1.toInt x2.toInt x3.toInt x4.toInt x5.toInt x6.toInt) {hB : ea_H} (hq : hiq h hB) :
    sat (qX11_post x1 x2 x3 x4 x5 x6 h) fun yA => sat (qX12_post x1 x2 x3 x4 x5 x6 hB) fun yB => yA.1 = yB.1 ∧ poA h m X (hI h 326 0) x2.toInt yA.2 ∧ poB hB m X (hI h 326 0) x2.toInt yB.2 ∧ LtE yA.2 yB.2 m ∧ PrE yA.2 yB.2 m (hI yB.2 375 m) ∧ (∀ k, k < 7 → hI yA.2 (76 + 2 * m) k = hI yB.2 (364 + k) m) ∧ (hI yA.2 (76 + 2 * m) 1 = x2.toInt ∧ hI yA.2 (76 + 2 * m) 2 = x3.toInt ∧ hI yA.2 (76 + 2 * m) 6 = hI h 326 0) := by
  obtain ⟨b1, b2, b3, b4, b5, b6⟩ := bs
  obtain ⟨w, D0, D1, c1, c2, c3, ⟨c5, c6⟩, c7, c8⟩ := rd.ex
  obtain ⟨c, u, ⟨d1, d2, d3⟩, d4, d5⟩ := ac
  obtain ⟨k1, k2, k3, k23, k4, k5, k6, k7⟩ := co
  obtain ⟨nwm, nw380, nw396, nw3, nw7⟩ := nw m (Nat.le_refl _) k7
  obtain ⟨n10, n11, n12, n13, n14, n15, n18⟩ := nwm
  obtain ⟨a, e2⟩ : ∃ a : Nat, x2.toInt = a := ⟨x2.toInt.toNat, by omega⟩
  obtain ⟨b, e3⟩ : ∃ b : Nat, x3.toInt = b := ⟨x3.toInt.toNat, by omega⟩
  have rc0 := rc.1.1
  have v52 : (ea_i h 52 0).toInt = m := rc0
  have g52 := vp80 v52 k7
  have ic52 : (ea_i h 52 0).toNatClampNeg = m := by
    rw [n_idx, v52]
    rfl
  obtain ⟨kk1, kk2⟩ := ltr_ref hs k7
  have hrB : MRoad hB w := fun b c hb hc => (hq 327 _ (by decide)).trans (c3 b c hb hc)
  have slB : ∀ l, l < m → hI h (76 + 2 * l) 0 = hI hB 364 l ∧ hI h (76 + 2 * l) 5 = hI hB 369 l ∧ hI h (76 + 2 * l) 6 = hI hB 370 l := fun l hl => ⟨((sl l hl).1 0 (by decide)).trans (hq 364 l (by decide)).symm, ((sl l hl).1 5 (by decide)).trans (hq 369 l (by decide)).symm, ((sl l hl).1 6 (by decide)).trans (hq 370 l (by decide)).symm⟩
  have hnow : hI hB 326 0 = hI h 326 0 := hq 326 0 (by decide)
  have enow : ea_i hB 326 0 = ea_i h 0 14 := n_eq.mpr (hnow.trans b1.symm)
  -- the reference up to its price
  obtain ⟨⟨HB, x7, x8⟩, ⟨e7, e8, fb⟩, KB⟩ := cps_ex (A := qX12_post x1 x2 x3 x4 x5 x6 hB) (F := fun i : ea_H × Int32 × Int32 => i.2.1.toInt = m ∧ i.2.1 < i.2.2 ∧ FB hB i.1 m x1.toInt x2.toInt x3.toInt x4.toInt x5.toInt x6.toInt (D0 a b) (crV D0 D1 a b) (cnt (fkP hB x6.toInt (ea_i hB 326 0 / (1440 : Int32))) m + if x1.toInt = 2 then 1 else 0)) (B := fun i => qX12_post_190 x2 x6 i.2.1 i.2.2 i.1) fun Q hQ => m_pre c1 c2 c5 c7 b6 hrB ((hq 326 1 (by decide)).trans b5) k7 ((hq 326 63 (by decide)).trans rm.1.1) k1 e2 e3 (by omega) (by omega) (by omega) k4 k5 k6 fun H x7 x8 h7 h8 hf => hQ (H, x7, x8) ⟨h7, h8, hf⟩
  dsimp only at e7 e8 fb KB
  obtain ⟨fB, fb63, fbo, fb0, fb1, fb2, fb3, fb4, fb5, fb6, fb7, fb8, fb9⟩ := fb
  have g7 := vp80 e7 k7
  have ic7 : x7.toNatClampNeg = m := by
    rw [n_idx, e7]
    rfl
  unfold qX11_post BX11_post_0
  obtain ⟨v2, p2, q2⟩ := c_has x2 h
  obtain ⟨v3, p3, q3⟩ := c_has x3 h
  rw [b4] at q2 q3
  have q2' : v2 = 1 := by
    rcases q2 with ⟨-, z⟩ | ⟨z, -⟩
    · exact absurd k2 z
    · exact z
  have q3' : v3 = 1 := by
    rcases q3 with ⟨-, z⟩ | ⟨z, -⟩
    · exact absurd k3 z
    · exact z
  refine sat_neg (by rw [n_lt, l_0]; omega) (sat_neg (by rw [n_lt, l_4]; omega) (sat_call p2 (sat_neg (by rw [q2']; exact i1_ne_0) (sat_call p3 (sat_neg (by rw [q3']; exact i1_ne_0) (sat_neg (by rw [n_eq]; omega) (sat_neg (by rw [n_lt, l_1]; omega) (sat_neg (by rw [n_lt, l_9]; omega) (sat_neg (by rw [n_lt, l_0]; omega) (sat_neg (by rw [n_lt, l_99]; omega) (sat_neg (by rw [n_lt, l_0]; omega) (sat_pos (by rw [n_le, l_9]; omega) (sat_pos ?_ (sat_sub ?_))))))))))))))
  · show ea_i h 52 0 < 120
    rw [n_lt, v52, l_120]
    omega
  dsimp only
  rw [ic52, kk1]
  refine sat_gd g52 (sat_sub (sat_gd rfl (sat_gd kk2 ?_)))
  refine c_pre (D0 := D0) (D1 := D1) hs k7 rc0 (show a < 12 by omega) (show b < 12 by omega) e2 e3 (c6 a b (by omega) (by omega)) (c8 a b (by omega) (by omega)) hB slB fun H fa => ?_
  obtain ⟨fA, oA, sA, fa0, fa1, fa2, fa3, fa4, fa5, fa6, fa7, fa8, fa9⟩ := fa
  have hsH := ShC_core fA.1 hs
  have lt0 : LtE H HB m := by
    refine ⟨fa0.trans fb0.symm, fa3.trans fb3.symm, fa4.trans fb4.symm, ?_, ?_, ?_, fun h2 => ?_⟩
    · rw [fa6, fb6, hnow]
      exact b1
    · have dle := c5.1 a b (by omega) (by omega)
      rw [fa7, fb7]
      by_cases z : D0 a b < 1000000
      · rw [if_pos z, if_neg (by omega)]
      · rw [if_neg z, if_pos (by omega)]
    · show (ea_i H (76 + 2 * m) 8).toInt = 0 ↔ (ea_i HB 378 m).toInt = 0
      rw [fa8, fb8]
    · rw [fb0] at h2
      rw [fb9, fa9, if_pos h2, enow]
  have acH : ∀ k, k < c → AcE H HB u k := fun k hk => ((d5 k hk).hi hq).kq (fA.kq rfl) (fB.kq rfl) (by omega)
  refine sat_bind (ls_price (c := c) hsH k7 lt0 ((oA 23 1 (by omega)).trans d1) ((fB.I 326 rfl 25 rfl).trans ((hq 326 25 (by decide)).trans d2)) d3 acH ?_ ?_ ((sA 10 (by decide)).trans n10) ((sA 12 (by decide)).trans n12) ((sA 13 (by decide)).trans n13) ((sA 14 (by decide)).trans n14) (x2 := x2) (x6 := x6) e7 e8) fun yP hP => ?_
  · rw [fb6]
    exact fB.I 326 rfl 0 rfl
  · rw [fb6, hnow]
    exact b2
  obtain ⟨fP, oP, KP⟩ := hP
  have rcP : RC52 m X yP.2 := (rc.kq (fA.kq rfl)).kq (fP.kq rfl)
  have rnP : RN m X yP.2 := (rn.lq rc.1.2 (fA.kq rfl) (keq.lt (fA.kq rfl : keq [] [((76, 315), 16, 17)] h H) rfl)).lq rc.1.2 (fP.kq rfl) (keq.lt (fP.kq rfl : keq [] [((76, 315), 16, 17)] H yP.2) rfl)
  have v14 : (ea_i yP.2 0 14).toInt = hI h 326 0 := (fP.I 0 rfl 14 rfl).trans ((oA 0 14 (by omega)).trans b1)
  refine sat_bind (c_begin52 (ShC_core fP.1 hsH) k7 rcP rnP nw3 nw7 b7 v14 e2 (by omega) b2 b3) fun yC hC => ?_
  obtain ⟨fC, oC, rcC, rnC⟩ := hC
  rw [← e2] at rcC rnC
  refine sat_let fun H27 q27 => sat_ret ?_
  have q27 : H27 = ea_wi yC.2 0 15 0 := q27
  have f27 : fq [] [((0, 0), 15, 15)] yC.2 H27 := q27 ▸ fq_wf rfl
  have FA27 : fq [(29, 30), (53, 54), (60, 60)] [((0, 0), 15, 15), ((52, 52), 0, 0), ((52, 52), 10, 10), ((76, 315), 0, 17)] h H27 := (fA.up rfl rfl).tr ((fP.up rfl rfl).tr ((fC.up rfl rfl).tr (f27.up rfl rfl)))
  have fld : ∀ k, k < 16 → hI H27 (76 + 2 * m) k = hI yP.2 (76 + 2 * m) k := fun k hk => by
    rw [q27, hI_ne (by omega), fC.I (76 + 2 * m) ?_ k ?_]
    · rw [Bool.eq_false_iff]
      intro y
      obtain ⟨r, z1, z2, z3⟩ := inB_iff.mp y
      simp at z1
      rcases z1 with rfl | rfl <;> dsimp only at z2 z3 <;> omega
    · rw [Bool.eq_false_iff]
      intro y
      obtain ⟨r, z1, z2, z3⟩ := inP_iff.mp y
      simp at z1
      rcases z1 with rfl | rfl | rfl <;> dsimp only at z2 z3 <;> omega
  have fldP : ∀ k, k < 10 → hI yP.2 (76 + 2 * m) k = hI H (76 + 2 * m) k := fun k hk => fP.I (76 + 2 * m) (inB_no (by omega)) k (lt_out (Or.inl hk))
  show sat (qX12_post x1 x2 x3 x4 x5 x6 hB) _
  refine KB _ (KP _ fun h2 s0 f2 o2 pr => ?_)
  refine uqX12_post_390 ?_
  unfold BX12_post_390
  rw [ic7]
  refine sat_gd g7 (sat_let fun H78 q78 => sat_gd g7 (sat_let fun H80 q80 => ?_))
  have f80 : fq [(375, 375), (383, 383)] [] h2 H80 := (q78 ▸ fq_wi rfl : fq [(375, 375), (383, 383)] [] h2 H78).tr (q80 ▸ fq_wi rfl)
  have G80 : fq [(335, 335), (363, 375), (378, 379), (383, 383), (391, 391)] [((326, 326), 63, 63)] hB H80 := (fB.up rfl rfl).tr ((f2.up rfl rfl).tr (f80.up rfl rfl))
  have v80 : (ea_i H80 326 0).toInt = hI h 326 0 := (G80.I 326 rfl 0 rfl).trans hnow
  have rmB := RM0.hi hq rm
  obtain ⟨⟨p0, p1⟩, p2', p3', p4', p5'⟩ := rmB
  have e63 : hI H80 326 63 = ((m + 1 : Nat) : Int) := by
    rw [f80.I 326 rfl 63 rfl, f2.I 326 rfl 63 rfl]
    exact fb63
  have e383 : ∀ k, hI H80 383 k = if k = m then -1 else hI hB 383 k := fun k => by
    rw [q80, hI_row, q78, hI_ne (by decide), f2.C 383 rfl rfl, fB.C 383 rfl rfl]
    rfl
  have tu := m_turns1 (m := m + 1) (l := m) (X := upX X 2 m (-1)) (mn := hI h 326 0) (st := 0) (pl := x2.toInt) (x3 := 0) (h := H80) e7 v80 rfl rfl (Nat.lt_succ_self m) ⟨e63, by omega⟩ (fun k => by
    rw [G80.C 381 rfl rfl, G80.C 382 rfl rfl, e383, G80.C 384 rfl rfl, G80.C 385 rfl rfl, G80.C 376 rfl rfl, G80.C 388 rfl rfl, G80.C 389 rfl rfl, G80.C 390 rfl rfl, upX_ne (show (0 : Nat) ≠ 2 by decide), upX_ne (show (1 : Nat) ≠ 2 by decide), upX_row, upX_ne (show (3 : Nat) ≠ 2 by decide), upX_ne (show (5 : Nat) ≠ 2 by decide), upX_ne (show (7 : Nat) ≠ 2 by decide), upX_ne (show (8 : Nat) ≠ 2 by decide), upX_ne (show (9 : Nat) ≠ 2 by decide), upX_ne (show (10 : Nat) ≠ 2 by decide)]
    obtain ⟨t0, t1, t2, t3, t5, t7, t8, t9, t10⟩ := p2' k
    refine ⟨t0, t1, ?_, t3, t5, t7, t8, t9, t10⟩
    by_cases z : k = m
    · rw [if_pos z, if_pos z]
    · rw [if_neg z, if_neg z]
      exact t2) (fun l' h1 h2' hz => by
    rw [upX_ne (by decide)] at hz ⊢
    rw [G80.C 387 rfl rfl]
    exact p3' l' (by omega) hz) (fun t d ht hd => by
    rw [upX_ne (by decide), G80.C 386 rfl rfl]
    exact p4' t d ht hd) (fun k => or01 (G80.C 387 rfl rfl k) (p5' k)) (by rw [upX_ne (by decide), nw7]; exact Int.le_refl 0) (by rw [upX_ne (by decide), nw7]; decide) fun z => absurd z (by decide)
  refine sat_bind tu fun y hy => sat_ret ?_
  obtain ⟨fy, rmy⟩ := hy
  have Fe : fq [(375, 376), (381, 383), (385, 385), (388, 390)] [] h2 y.2 := (f80.up rfl rfl).tr (fy.up rfl rfl)
  refine ⟨n_eq.mpr (v52.trans e7.symm), ⟨FA27, ?_, fun c k h1 h2' h3 => ?_, ?_, ?_, rcC.kq (f27.kq rfl), rnC.lq (by omega) (f27.kq rfl) (keq.lt (f27.kq rfl : keq [] [((76, 315), 16, 17)] yC.2 H27) rfl)⟩, ⟨(fB.up rfl rfl).tr ((f2.up rfl rfl).tr (Fe.up rfl rfl)), fun j hj c h1 h2' h3 => ?_, rmy⟩, ?_, ?_, fun k hk => ?_, ?_, ?_, ?_⟩
  · show hI H27 0 15 = 0
    rw [q27, hI_at]
    rfl
  · show hI H27 c k = hI h c k
    rw [q27, hI_ne (by omega), oC c k h1 h2' h3, oP c k h3 (by omega) (by omega), oA c k h3]
  · show hI H27 (76 + 2 * m) 15 = _
    rw [fld 15 (by decide), fP.I (76 + 2 * m) (inB_no (by omega)) 15 (lt_out (Or.inr (by decide))), sA 15 (by decide)]
  · show hI H27 (76 + 2 * m) 18 = _
    rw [q27, hI_ne (by omega), fC.I (76 + 2 * m) ?_ 18 ?_, fP.I (76 + 2 * m) (inB_no (by omega)) 18 (lt_out (Or.inr (by decide))), sA 18 (by decide)]
    · rw [Bool.eq_false_iff]
      intro y
      obtain ⟨r, z1, z2, z3⟩ := inB_iff.mp y
      simp at z1
      rcases z1 with rfl | rfl <;> dsimp only at z2 z3 <;> omega
    · rw [Bool.eq_false_iff]
      intro y
      obtain ⟨r, z1, z2, z3⟩ := inP_iff.mp y
      simp at z1
      rcases z1 with rfl | rfl | rfl <;> dsimp only at z2 z3 <;> omega
  · show hI y.2 c j = hI hB c j
    by_cases z : c = 375
    · rw [z, fy.C 375 rfl rfl, q80, hI_ne (by decide), q78, hI_nk hj, f2.C 375 rfl rfl, fB.C 375 rfl rfl]
    · have e1 : hI y.2 c j = hI h2 c j := by
        refine Fe.C c ?_ rfl j
        rw [Bool.eq_false_iff]
        intro y
        obtain ⟨r, z1, z2, z3⟩ := inB_iff.mp y
        simp at z1
        rcases z1 with rfl | rfl | rfl | rfl <;> dsimp only at z2 z3 <;> omega
      rw [e1]
      by_cases z2 : c = 373 ∨ c = 374 ∨ c = 379
      · obtain ⟨o3, o4, o9⟩ := o2 j hj
        rcases z2 with z2 | z2 | z2 <;> rw [z2]
        · rw [o3, fB.C 373 rfl rfl]
        · rw [o4, fB.C 374 rfl rfl]
        · rw [o9, fB.C 379 rfl rfl]
      · have e2' : hI h2 c j = hI HB c j := by
          refine f2.C c ?_ rfl j
          rw [Bool.eq_false_iff]
          intro y
          obtain ⟨r, z1, z3, z4⟩ := inB_iff.mp y
          simp at z1
          rcases z1 with rfl | rfl | rfl | rfl <;> dsimp only at z3 z4 <;> omega
        rw [e2']
        exact fbo j hj c h1 (by omega)
  · show LtE H27 y.2 m
    have L1 : LtE yP.2 h2 m := (lt0.wide fP).fqB2 f2
    unfold LtE
    rw [fld 0 (by decide), fld 3 (by decide), fld 4 (by decide), fld 6 (by decide), fld 7 (by decide), fld 8 (by decide), fld 9 (by decide), Fe.C 364 rfl rfl, Fe.C 367 rfl rfl, Fe.C 368 rfl rfl, Fe.C 370 rfl rfl, Fe.C 371 rfl rfl, Fe.C 378 rfl rfl, Fe.C 372 rfl rfl]
    exact L1
  · show PrE H27 y.2 m (hI y.2 375 m)
    have e375 : hI y.2 375 m = s0.toInt := by rw [fy.C 375 rfl rfl, q80, hI_ne (by decide), q78, hI_at]
    unfold PrE at pr ⊢
    rw [e375, fld 10 (by decide), fld 11 (by decide), fld 12 (by decide), fld 13 (by decide), fld 14 (by decide), Fe.C 374 rfl rfl, Fe.C 373 rfl rfl, Fe.C 379 rfl rfl]
    refine ⟨pr.1, pr.2.1, pr.2.2.1, pr.2.2.2.1, ?_⟩
    rcases pr.2.2.2.2 with z | ⟨aa, z1, z2, z3⟩
    · exact Or.inl z
    · refine Or.inr ⟨aa, z1, ⟨z2.1, by rw [Fe.I 326 rfl 25 rfl]; exact z2.2⟩, ?_⟩
      rw [Fe.C 354 rfl rfl]
      exact z3
  · show hI H27 (76 + 2 * m) k = hI y.2 (364 + k) m
    have r1 : hI y.2 (364 + k) m = hI HB (364 + k) m := by
      have : k = 0 ∨ k = 1 ∨ k = 2 ∨ k = 3 ∨ k = 4 ∨ k = 5 ∨ k = 6 := by omega
      rcases this with z | z | z | z | z | z | z <;> subst z
      · exact (Fe.C 364 rfl rfl m).trans (f2.C 364 rfl rfl m)
      · exact (Fe.C 365 rfl rfl m).trans (f2.C 365 rfl rfl m)
      · exact (Fe.C 366 rfl rfl m).trans (f2.C 366 rfl rfl m)
      · exact (Fe.C 367 rfl rfl m).trans (f2.C 367 rfl rfl m)
      · exact (Fe.C 368 rfl rfl m).trans (f2.C 368 rfl rfl m)
      · exact (Fe.C 369 rfl rfl m).trans (f2.C 369 rfl rfl m)
      · exact (Fe.C 370 rfl rfl m).trans (f2.C 370 rfl rfl m)
    rw [fld k (by omega), fldP k (by omega), r1]
    have : k = 0 ∨ k = 1 ∨ k = 2 ∨ k = 3 ∨ k = 4 ∨ k = 5 ∨ k = 6 := by omega
    rcases this with z | z | z | z | z | z | z <;> subst z
    · exact fa0.trans fb0.symm
    · exact fa1.trans fb1.symm
    · exact fa2.trans fb2.symm
    · exact fa3.trans fb3.symm
    · exact fa4.trans fb4.symm
    · exact fa5.trans fb5.symm
    · rw [fa6, fb6, hnow]
      exact b1
  · show hI H27 (76 + 2 * m) 1 = _
    rw [fld 1 (by decide), fldP 1 (by decide), fa1]
  · show hI H27 (76 + 2 * m) 2 = _
    rw [fld 2 (by decide), fldP 2 (by decide), fa2]
  · show hI H27 (76 + 2 * m) 6 = _
    rw [fld 6 (by decide), fldP 6 (by decide), fa6]
    exact b1
end CPP
