/-! trials: the reference's sum, and what stands behind it -/
def tbX (X Y : Nat → Nat → Int) : Nat → Nat → Int := fun f k => if f ≤ 7 then X f k else Y f k
theorem tb_lo {X Y : Nat → Nat → Int} {f k : Nat} (hf : f ≤ 7) : tbX X Y f k = X f k := if_pos hf
theorem tb_hi {X Y : Nat → Nat → Int} {f k : Nat} (hf : 8 ≤ f) : tbX X Y f k = Y f k := if_neg (by omega)
section SUM
variable {T : Nat → Nat → Nat → Nat} {L : List Nat} {G X Y : Nat → Nat → Int} {m n p : Nat} {h k : ea_H}
def W_su : List (Nat × Nat) := [(336, 346), (376, 377), (381, 390), (395, 395), (407, 415)]
theorem m_sums (ok : tOk T) (hL : tList T L) (hG : G 7 0 = m) (hM : MTab h T) (hn : n ≤ 12) (hn1 : hI h 326 1 = n) (wm : SWyM h T n) (gm : GM n G h) (rm : RM0 m X h) {now : Nat} (e0 : hI h 326 0 = now) (n1 : now ≤ 10079) (df : DFm m (fun _ => (now : Int) / 1440) X h) (hp : fstB L now p) (hX : XOk T m (fun _ => 2 + (p : Int)) X) :
    sat (qX12_sums h) fun y => fq W_su [((326, 326), 12, 13)] h y.2 ∧ RM0 m (tbX X (caX T L G 10079 (L.drop p) now X)) y.2 ∧ DFm m (fun _ => (now : Int) / 1440) (tbX X (caX T L G 10079 (L.drop p) now X)) y.2 ∧ SWyM y.2 T n ∧ y.1.toInt = smX (caX T L G 10079 (L.drop p) now X) m := by
  have h980 := t_len2 ok hL
  have hp1 := hp.1
  have hm := rm.1.2
  have of := caX_of (T := T) (L := L) hG (up := 10079) (L.drop p) now X
  have XO := caX_ok (T := T) (L := L) (G := G) (m := m) (up := 10079) ok hL hG (by omega) (L.drop p) now X (2 + (p : Int)) (fun x hx => List.mem_of_mem_drop hx) (by omega) hX
  unfold qX12_sums
  refine uqX12_sums_0 ?_
  unfold BX12_sums_0
  refine sat_bind (m_keeps rm.1.1 hm fun l _ => rm.2.2.2.2 l) fun w1 hw1 => ?_
  obtain ⟨f1, ks, k6⟩ := hw1
  refine sat_bind (m_leadsOn ok hL hG (bg := now) (up := 10079) (p := p) (by omega) (by omega) hp ((f1.C 326 rfl rfl 0).trans e0) l_10079 (b := 2 + (p : Int)) (by omega) hX (gm.kq (f1.kq rfl)) (hM.fq f1 rfl rfl ⟨rfl, rfl⟩ ⟨rfl, rfl⟩ ⟨rfl, rfl⟩ ⟨rfl, rfl⟩ ⟨rfl, rfl⟩) hn ((f1.C 326 rfl rfl 1).trans hn1) (SWyM.kq hn (f1.kq rfl) wm) (rm.kq (f1.kq rfl)) fun l hl hz => (f1.C 377 rfl rfl l).trans (df l hl hz)) fun w2 hw2 => ?_
  obtain ⟨f2, g2, rm2, df2⟩ := hw2
  generalize hY : caX T L G 10079 (L.drop p) now X = Y at *
  have m63 : hI w2.2 326 63 = m := rm2.1.1
  have H : ∀ (j e : Nat) (x1 x2 : Int32), e + j = m → x2.toInt = e → x1.toInt = smX Y e → sat (qX12_sums_19 x1 x2 w2.2) fun y => fq W_su [((326, 326), 12, 13)] h y.2 ∧ RM0 m (tbX X Y) y.2 ∧ DFm m (fun _ => (now : Int) / 1440) (tbX X Y) y.2 ∧ SWyM y.2 T n ∧ y.1.toInt = smX Y m := by
    intro j
    induction j with
    | zero =>
      intro e x1 x2 he e2 e1
      refine uqX12_sums_19 ?_
      unfold BX12_sums_19
      refine sat_pos (by rw [n_le, hI_eq, m63, e2]; omega) (sat_bind (m_putsBack m63 hm fun l hl => ?_) fun w3 hw3 => sat_ret ?_)
      · rw [f2.C 415 rfl rfl, (ks l hl).2.2.2.2.2.2.2]
        exact rm.2.2.2.2 l
      obtain ⟨f3, pb, p6⟩ := hw3
      have F : fq W_su [((326, 326), 12, 13)] h w3.2 := (f1.up rfl rfl).tr ((f2.up rfl rfl).tr (f3.up rfl rfl))
      have lo : ∀ l, l < m → hI w3.2 381 l = hI h 381 l ∧ hI w3.2 382 l = hI h 382 l ∧ hI w3.2 383 l = hI h 383 l ∧ hI w3.2 384 l = hI h 384 l ∧ hI w3.2 385 l = hI h 385 l ∧ hI w3.2 376 l = hI h 376 l ∧ hI w3.2 377 l = hI h 377 l ∧ hI w3.2 387 l = hI h 387 l := fun l hl => by
        obtain ⟨b1, b2, b3, b4, b5, b6, b7, b8⟩ := pb l
        obtain ⟨k1, k2, k3, k4, k5, k6, k7, k8⟩ := ks l hl
        rw [b1, b2, b3, b4, b5, b6, b7, b8, if_pos hl, if_pos hl, if_pos hl, if_pos hl, if_pos hl, if_pos hl, if_pos hl, if_pos hl, f2.C 407 rfl rfl, f2.C 408 rfl rfl, f2.C 409 rfl rfl, f2.C 410 rfl rfl, f2.C 411 rfl rfl, f2.C 412 rfl rfl, f2.C 413 rfl rfl, f2.C 415 rfl rfl]
        exact ⟨k1, k2, k3, k4, k5, k6, k7, k8⟩
      refine ⟨F, ⟨⟨(F.I 326 rfl 63 rfl).trans rm.1.1, hm⟩, fun l => ?_, fun l hl hz => ?_, fun t d ht hd => ?_, fun l => ?_⟩, fun l hl hz => ?_, ?_, ?_⟩
      · rw [tb_lo (f := 0) (by decide), tb_lo (f := 1) (by decide), tb_lo (f := 2) (by decide), tb_lo (f := 3) (by decide), tb_lo (f := 5) (by decide), tb_lo (f := 7) (by decide), tb_hi (f := 8) (by decide), tb_hi (f := 9) (by decide), tb_hi (f := 10) (by decide)]
        obtain ⟨u0, u1, u2, u3, u5, u7, u8, u9, u10⟩ := rm2.2.1 l
        show hI w3.2 381 l = _ ∧ hI w3.2 382 l = _ ∧ hI w3.2 383 l = _ ∧ hI w3.2 384 l = _ ∧ hI w3.2 385 l = _ ∧ hI w3.2 376 l = _ ∧ hI w3.2 388 l = _ ∧ hI w3.2 389 l = _ ∧ hI w3.2 390 l = _
        rw [f3.C 388 rfl rfl, f3.C 389 rfl rfl, f3.C 390 rfl rfl]
        by_cases hl : l < m
        · obtain ⟨l1, l2, l3, l4, l5, l6, l7, l8⟩ := lo l hl
          obtain ⟨v0, v1, v2, v3, v5, v7, -, -, -⟩ := rm.2.1 l
          exact ⟨l1.trans v0, l2.trans v1, l3.trans v2, l4.trans v3, l5.trans v5, l6.trans v7, u8, u9, u10⟩
        · obtain ⟨b1, b2, b3, b4, b5, b6, b7, b8⟩ := pb l
          rw [if_neg hl] at b1 b2 b3 b4 b5 b6
          have o := of l (by omega)
          exact ⟨(b1.trans u0).trans (o 0 (by decide) (by decide)), (b2.trans u1).trans (o 1 (by decide) (by decide)), (b3.trans u2).trans (o 2 (by decide) (by decide)), (b4.trans u3).trans (o 3 (by decide) (by decide)), (b5.trans u5).trans (o 5 (by decide) (by decide)), (b6.trans u7).trans (o 7 (by decide) (by decide)), u8, u9, u10⟩
      · rw [tb_lo (by decide)] at hz ⊢
        exact (lo l hl).2.2.2.2.2.2.2.trans (rm.2.2.1 l hl hz)
      · rw [tb_lo (by decide)]
        show hI w3.2 386 (7 * t + d) = _
        rw [p6, if_pos (by omega), f2.C 414 rfl rfl, k6 _ (by omega)]
        exact rm.2.2.2.1 t d ht hd
      · show hI w3.2 387 l = 0 ∨ hI w3.2 387 l = 1
        by_cases hl : l < m
        · exact or01 (lo l hl).2.2.2.2.2.2.2 (rm.2.2.2.2 l)
        · have b8 := (pb l).2.2.2.2.2.2.2
          rw [if_neg hl] at b8
          exact or01 b8 (rm2.2.2.2.2 l)
      · rw [tb_lo (by decide)] at hz ⊢
        exact (lo l hl).2.2.2.2.2.2.1.trans (df l hl hz)
      · refine SWyM.kq hn (f3.kq rfl) (Or.inr ⟨g2.2.1, fun L3 hL3 => ?_⟩)
        rw [t_uniq hL3 hL]
        exact g2.2.2.2.2
      · show x1.toInt = _
        rw [e1, show m = e by omega]
    | succ j ih =>
      intro e x1 x2 he e2 e1
      have g := vp80 e2 (show e < 120 by omega)
      have ic : x2.toNatClampNeg = e := by
        rw [n_idx, e2]
        rfl
      have v381 : (ea_i w2.2 381 e).toInt = Y 0 e := (rm2.2.1 e).1
      have v385 : (ea_i w2.2 385 e).toInt = Y 5 e := (rm2.2.1 e).2.2.2.2.1
      have sb := smX_b XO e (by omega)
      have x0 := (XO e (by omega)).1
      have x5 := (XO e (by omega)).2.2.2.1
      refine uqX12_sums_19 ?_
      unfold BX12_sums_19
      rw [ic]
      refine sat_neg (by rw [n_le, hI_eq, m63, e2]; omega) (sat_gd g (sat_ite (fun c => ?_) fun c => ?_))
      · rw [n_eq, v381, l_2] at c
        refine sat_gd g (sat_sub (ih (e + 1) _ (x2 + 1) (by omega) (n_inc e2 (by omega)) ?_))
        show _ = smX Y e + _
        rw [n_add, e1, v385, if_pos c, n_bm (by omega) (by omega)]
      rw [n_eq, v381, l_2] at c
      refine sat_gd g (sat_ite (fun d => ?_) fun d => ?_)
      · rw [n_le, v381, l_2] at d
        refine sat_sub (ih (e + 1) _ (x2 + 1) (by omega) (n_inc e2 (by omega)) ?_)
        show _ = smX Y e + _
        rw [n_add, e1, l_0, if_neg c, if_neg (by omega), n_bm (by omega) (by omega)]
      · rw [n_le, v381, l_2] at d
        refine sat_sub (ih (e + 1) _ (x2 + 1) (by omega) (n_inc e2 (by omega)) ?_)
        show _ = smX Y e + _
        rw [n_add, e1, l_10080, if_neg c, if_pos (by omega), n_bm (by omega) (by omega)]
  exact H m 0 0 0 (by omega) rfl rfl
end SUM
