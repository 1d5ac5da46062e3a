section CPX
variable {T : Nat → Nat → Nat → Nat} {G X : Nat → Nat → Int} {m n : Nat} {h : ea_H}
theorem c_pono (b4 : hI h 1 0 = n) (h52 : hI h 52 0 = m) (x1 x2 x3 x4 x5 x6 : Int32) (hc : ¬ poC n m x1.toInt x2.toInt x3.toInt x4.toInt x5.toInt x6.toInt) {Q : Int32 × ea_H → Prop} (K : Q (-1, h)) : sat (qX11_post x1 x2 x3 x4 x5 x6 h) Q := by
  unfold poC at hc
  have v52 : (ea_i h 52 0).toInt = m := h52
  unfold qX11_post BX11_post_0
  obtain ⟨v2, p2, q2⟩ := c_has x2 h
  obtain ⟨v3, p3, q3⟩ := c_has x3 h
  rw [b4] at q2 q3
  refine sat_ite (fun _ => sat_ret K) fun z1 => ?_
  refine sat_ite (fun _ => sat_ret K) fun z2 => ?_
  refine sat_call p2 ?_
  refine sat_ite (fun _ => sat_ret K) fun z3 => ?_
  refine sat_call p3 ?_
  refine sat_ite (fun _ => sat_ret K) fun z4 => ?_
  refine sat_ite (fun _ => sat_ret K) fun z5 => ?_
  refine sat_ite (fun _ => sat_ret K) fun z6 => ?_
  refine sat_ite (fun _ => sat_ret K) fun z7 => ?_
  refine sat_ite (fun _ => sat_ret K) fun z8 => ?_
  refine sat_ite (fun _ => sat_ret K) fun z9 => ?_
  refine sat_ite (fun _ => sat_ret K) fun z10 => ?_
  refine sat_eti (fun _ => sat_ret K) fun z11 => ?_
  refine sat_eti (fun _ => sat_ret K) fun z12 => ?_
  have z12 : ea_i h 52 0 < (120 : Int32) := z12
  have z3 : ¬ v2 = 0 := z3
  have z4 : ¬ v3 = 0 := z4
  rw [n_lt, l_0] at z1
  rw [n_lt, l_4] at z2
  rw [n_eq] at z5
  rw [n_lt, l_1] at z6
  rw [n_lt, l_9] at z7
  rw [n_lt, l_0] at z8
  rw [n_lt, l_99] at z9
  rw [n_lt, l_0] at z10
  rw [n_le, l_9] at z11
  rw [n_lt, v52, l_120] at z12
  have w2 : 0 ≤ x2.toInt ∧ x2.toInt < n := by
    rcases q2 with ⟨q, -⟩ | ⟨-, q⟩
    · exact absurd q z3
    · exact q
  have w3 : 0 ≤ x3.toInt ∧ x3.toInt < n := by
    rcases q3 with ⟨q, -⟩ | ⟨-, q⟩
    · exact absurd q z4
    · exact q
  exact absurd ⟨⟨by omega, by omega⟩, w2, w3, z5, ⟨by omega, by omega⟩, ⟨by omega, by omega⟩, ⟨by omega, by omega⟩, by omega⟩ hc
/-- the letters' part with the new letter -/
theorem po_sle {x2 x3 : Int} {h' : ea_H} (ok : tOk T) (sl : SLe h n T m X G) (hm : m < 120) (hn : n ≤ 12) (n0 : 0 ≤ hI h 326 0) (n1 : hI h 326 0 ≤ 10079) (k2 : 0 ≤ x2 ∧ x2 < n) (k3 : 0 ≤ x3 ∧ x3 < n) (F : fq W_po V_po h h')
    (oA : ∀ c k, 76 ≤ c → c ≤ 315 → c ≠ 76 + 2 * m → hI h' c k = hI h c k) (e15 : hI h' (76 + 2 * m) 15 = hI h (76 + 2 * m) 15) (e18 : hI h' (76 + 2 * m) 18 = hI h (76 + 2 * m) 18) (rc : RC52 (m + 1) (nX X m (hI h 326 0) x2) h') (rn : RN (m + 1) (nX X m (hI h 326 0) x2) h')
    (oB : ∀ j, j ≠ m → ∀ c, 364 ≤ c → c ≤ 379 → c ≠ 376 → hI h' c j = hI h c j) (rm : RM0 (m + 1) (nX X m (hI h 326 0) x2) h') (lt : LtE h' h' m) (pr : PrE h' h' m (hI h' 375 m)) (fk : ∀ k, k < 7 → hI h' (76 + 2 * m) k = hI h' (364 + k) m) (f1 : hI h' (76 + 2 * m) 1 = x2) (f2 : hI h' (76 + 2 * m) 2 = x3) (f6 : hI h' (76 + 2 * m) 6 = hI h 326 0) :
    SLe h' n T (m + 1) (nX X m (hI h 326 0) x2) (nG G m x3 (hI h' (76 + 2 * m) 14)) := by
  obtain ⟨⟨hG, gc, gm, rc0, rn0, rm0, df, L, p, hL, hp, hX, hld⟩, sh, nw, ss, sc, sf, sp, sr⟩ := sl
  obtain ⟨⟨n10, n11, n12, n13, n14, n15, n18⟩, nw380, nw396, nw3, nw7⟩ := nw m (Nat.le_refl _) hm
  have e0 : hI h' 326 0 = hI h 326 0 := F.I 326 rfl 0 rfl
  have h980 := t_len2 ok hL
  have hp1 := hp.1
  have le : ∀ l k, l < 120 → l ≠ m → hI h' (76 + 2 * l) k = hI h (76 + 2 * l) k := fun l k hl hn => oA _ k (by omega) (by omega) (by omega)
  obtain ⟨g7, g71⟩ := nG_7 (G := G) (m := m) (to := x3) (dd := hI h' (76 + 2 * m) 14)
  obtain ⟨pr1, pr2, pr3, pr4, pr5⟩ := pr
  have dd : 0 ≤ hI h' (76 + 2 * m) 14 ∧ hI h' (76 + 2 * m) 14 ≤ 9999 := by
    rcases pr5 with ⟨-, z⟩ | ⟨a, -, -, z1, z2, z3⟩
    · omega
    · omega
  have mk : ∀ c l, mkB h' c l = mkB h c l := fun c l => mkB_fq F rfl c l
  have XLm : ∀ b : Int, 2 ≤ b → XL T b (nX X m (hI h 326 0) x2) m := fun b hb => by
    unfold XL
    rw [nX_0, nX_1, nX_5, nX_7 nw7, if_pos rfl, if_pos rfl, if_pos rfl, if_pos rfl, if_pos (by decide)]
    refine ⟨by omega, fun _ => by omega, fun z => absurd z (by decide), by omega, by omega, by omega⟩
  refine ⟨⟨g7, ?_, ?_, rc, rn, rm, fun l hl hz => ?_, L, p, hL, by rw [e0]; exact hp, fun l hl => ?_, fun l hl => ?_⟩, fun l hl => ?_, fun l hl hl2 => ?_, fun l hl => ?_, fun l hl => ?_, fun l hl => ?_, fun l hl => ?_, ?_⟩
  · obtain ⟨m2, s, ⟨a1, a2, a3, a4, a5⟩, b, c, d⟩ := gc
    refine ⟨m + 1, s, ⟨g7, g71.trans a2, by omega, a4, (F.I 18 rfl 0 rfl).trans a5⟩, fun l hl => ?_, fun r hr => ?_, fun k hk => ?_⟩
    · obtain ⟨w0, w1, w2⟩ := nG_l (G := G) (m := m) (to := x3) (dd := hI h' (76 + 2 * m) 14) l
      rw [w0, w1, w2]
      by_cases z : l = m
      · rw [if_pos z, if_pos z, if_pos z, z]
        exact ⟨⟨f2, by omega, by omega⟩, e15.trans n15, rfl, dd.1, dd.2⟩
      · rw [if_neg z, if_neg z, if_neg z, le l _ (by omega) z, le l _ (by omega) z, le l _ (by omega) z]
        exact b l (by omega)
    · obtain ⟨M, M1, M2, M3⟩ := c r hr
      exact ⟨M, (F.C 12 rfl rfl r).trans M1, M2, fun i hi => (nG_f (by decide) (by decide) (by decide) (by decide) _).trans (M3 i hi)⟩
    · rw [F.C 20 rfl rfl, F.C 21 rfl rfl, F.C 19 rfl rfl, nG_f (f := 4) (by decide) (by decide) (by decide) (by decide), nG_f (f := 5) (by decide) (by decide) (by decide) (by decide), nG_f (f := 6) (by decide) (by decide) (by decide) (by decide)]
      exact d k hk
  · obtain ⟨m2, s, ⟨a1, a2, a3, a4, a5, a6⟩, b, c, d⟩ := gm
    refine ⟨m + 1, s, ⟨g7, g71.trans a2, by omega, a4, rm.1.1, (F.I 326 rfl 92 rfl).trans a6⟩, fun l hl => ?_, fun t d' i ht hd hi => ?_, fun k hk => ?_⟩
    · obtain ⟨w0, w1, w2⟩ := nG_l (G := G) (m := m) (to := x3) (dd := hI h' (76 + 2 * m) 14) l
      rw [w0, w1, w2, F.C 380 rfl rfl]
      by_cases z : l = m
      · rw [if_pos z, if_pos z, if_pos z, z]
        refine ⟨⟨(fk 2 (by decide)).symm.trans f2, k3.1, k3.2⟩, nw380, ?_⟩
        rcases pr5 with z | ⟨a, z1, z2, z3, z4, z5⟩
        · exact Or.inl z
        · exact Or.inr ⟨a, z1, z2.1, z3, dd.1, dd.2⟩
      · rw [if_neg z, if_neg z, if_neg z, oB l z 366 (by decide) (by decide) (by decide), oB l z 373 (by decide) (by decide) (by decide)]
        obtain ⟨u1, u2, u3⟩ := b l (by omega)
        refine ⟨u1, u2, ?_⟩
        rcases u3 with u3 | ⟨a, u4, u5, u6, u7⟩
        · exact Or.inl u3
        · exact Or.inr ⟨a, u4, u5, (F.C 354 rfl rfl a).trans u6, u7⟩
    · rw [F.C 334 rfl rfl, nG_f (by decide) (by decide) (by decide) (by decide)]
      exact c t d' i ht hd hi
    · rw [F.C 392 rfl rfl, F.C 393 rfl rfl, F.C 394 rfl rfl, nG_f (f := 4) (by decide) (by decide) (by decide) (by decide), nG_f (f := 5) (by decide) (by decide) (by decide) (by decide), nG_f (f := 6) (by decide) (by decide) (by decide) (by decide)]
      exact d k hk
  · rw [nX_0] at hz
    by_cases z : l = m
    · rw [if_pos z] at hz
      exact absurd hz (by decide)
    · rw [if_neg z] at hz
      rw [nX_5, if_neg z, oB l z 377 (by decide) (by decide) (by decide), e0]
      exact df l (by omega) hz
  · by_cases z : l = m
    · rw [z]
      exact XLm (2 + (p : Int)) (by omega)
    · refine XL_cg ?_ ?_ ?_ ?_ ?_ ?_ (hX l (by omega))
      · rw [nX_0, if_neg z]
      · rw [nX_1, if_neg z]
      · rw [nX_2, if_neg z]
      · rw [nX_4, if_neg z]
      · rw [nX_5, if_neg z]
      · rw [nX_7 nw7, if_neg z]
  · by_cases z : l = m
    · subst z
      have mk0 : ∀ c, mkB h' c l = false := fun c => (mk c l).trans ((rn0.2 l (Nat.le_refl _) hm).2.2 c)
      obtain ⟨q1, q2, q3⟩ := nX_8 (X := X) (m := l) (now := hI h 326 0) (a := x2) nw7 (1000 * l)
      rw [if_pos rfl] at q1 q2 q3
      refine ⟨?_, by omega, by omega⟩
      unfold Ld1
      rw [ldK_none mk0, nX_7 nw7, nX_0, q1, q2, q3, if_pos rfl, if_pos rfl, if_neg (show ¬ (4 : Int) ≤ 0 by decide)]
      refine ⟨fun c hc => ?_, rfl, ⟨f6.symm, rfl, f1.symm⟩, fun i hi => absurd hi (Nat.not_lt_zero i), fun _ x hx => ?_, fun h4 => absurd h4 (by decide)⟩
      · have hc : mkB h' c l = true := hc
        rw [mk0 c] at hc
        cases hc
      · cases hx
    · obtain ⟨d1, d2, d3⟩ := hld l (by omega)
      have hmk : (fun c => mkB h' c l) = fun c => mkB h c l := funext fun c => mk c l
      have x7 : X 7 l ≤ 1000 := by
        have w := (hX l (by omega)).2.2.2.2.1
        have := hp.1
        dsimp only at w
        split at w <;> omega
      rw [hmk, le l 6 (by omega) z, e0]
      obtain ⟨w0, w1, w2⟩ := nG_l (G := G) (m := m) (to := x3) (dd := hI h' (76 + 2 * m) 14) l
      rw [if_neg z] at w0 w1
      exact ⟨Ld1_cg (le l 6 (by omega) z) (le l 1 (by omega) z) (Ld1_g w0 w1 (Ld1_sal x7 (nX_sa nw7 z) d1)), d2, d3⟩
  · by_cases z : l = m
    · rw [z, nX_0, if_pos rfl]
      exact ⟨by omega, fun h4 => absurd h4 (by decide)⟩
    · obtain ⟨c1, c2⟩ := sh l (by omega)
      have x7 : 1 ≤ X 7 l ∧ X 7 l ≤ 1000 := by
        have w := (hX l (by omega)).2.2.2.2.1
        have := hp.1
        dsimp only at w
        split at w <;> omega
      obtain ⟨⟨s0, s1, s7, s5⟩, s8⟩ := nX_sa (X := X) (m := m) (now := hI h 326 0) (a := x2) nw7 z
      rw [le l 1 (by omega) z, s0, s7, (s8 _ (by omega)).1, e0]
      exact ⟨c1, c2⟩
  · have z : l ≠ m := by omega
    rw [le l _ hl2 z, le l _ hl2 z, le l _ hl2 z, le l _ hl2 z, le l _ hl2 z, le l _ hl2 z, le l _ hl2 z, F.C 380 rfl rfl, F.C 396 rfl rfl, nX_3, nX_7 nw7, if_neg z]
    exact nw l (by omega) hl2
  · by_cases z : l = m
    · rw [z]
      exact ⟨fk, lt.2.2.2.2.2.1⟩
    · obtain ⟨c1, c2⟩ := ss l (by omega)
      rw [le l 8 (by omega) z, oB l z 378 (by decide) (by decide) (by decide)]
      refine ⟨fun k hk => ?_, c2⟩
      rw [le l k (by omega) z, oB l z (364 + k) (by omega) (by omega) (by omega)]
      exact c1 k hk
  · by_cases z : l = m
    · rw [z]
      exact ⟨pr1, pr2, pr3, pr4⟩
    · rw [le l _ (by omega) z, le l _ (by omega) z, le l _ (by omega) z, le l _ (by omega) z, oB l z 373 (by decide) (by decide) (by decide), oB l z 374 (by decide) (by decide) (by decide), oB l z 375 (by decide) (by decide) (by decide), oB l z 379 (by decide) (by decide) (by decide)]
      exact sc l (by omega)
  · by_cases z : l = m
    · rw [z]
      exact lt
    · unfold LtE
      rw [le l 0 (by omega) z, le l 3 (by omega) z, le l 4 (by omega) z, le l 6 (by omega) z, le l 7 (by omega) z, le l 8 (by omega) z, le l 9 (by omega) z, oB l z 364 (by decide) (by decide) (by decide), oB l z 367 (by decide) (by decide) (by decide), oB l z 368 (by decide) (by decide) (by decide), oB l z 370 (by decide) (by decide) (by decide), oB l z 371 (by decide) (by decide) (by decide), oB l z 372 (by decide) (by decide) (by decide), oB l z 378 (by decide) (by decide) (by decide)]
      exact sf l (by omega)
  · by_cases z : l = m
    · subst z
      refine ⟨0, e18.trans n18, (F.C 396 rfl rfl l).trans nw396, by decide, fun k hk => absurd hk (Nat.not_lt_zero k), fun j k _ hk => absurd hk (Nat.not_lt_zero k), fun i j _ hj => absurd hj (Nat.not_lt_zero j), fun i hi => absurd hi (Nat.not_lt_zero i), fun k hk => absurd hk (Nat.not_lt_zero k)⟩
    · obtain ⟨c, c1, c2, c3⟩ := sp l (by omega)
      refine ⟨c, (le l 18 (by omega) z).trans c1, (F.C 396 rfl rfl l).trans c2, PlR.cg (fun i _ => oA (77 + 2 * l) i (by omega) (by omega) (by omega)) (fun k _ => F.C 397 rfl rfl _) (fun k _ => F.C 398 rfl rfl _) c3⟩
  · refine SRb.suc (SRb.re (F.kq rfl) (fun l hl => ?_) (fun l hl => ?_) sr) ?_
    · have a : ea_i h' 374 l = ea_i h 374 l := n_eq.mpr (oB l (by omega) 374 (by decide) (by decide) (by decide))
      unfold owI
      rw [a, oB l (by omega) 364 (by decide) (by decide) (by decide)]
    · rw [nX_0, if_neg (by omega)]
    · rw [nX_0, if_pos rfl]
      decide
theorem call_post (hs : ShC h) (bs : SBas h n) (rd : SRd h n) (ac : SAc h) (b : STb h T) (sl : SLe h n T m X G) (x1 x2 x3 x4 x5 x6 : Int32) : tw (qX11_post x1 x2 x3 x4 x5 x6 h) (qX12_post x1 x2 x3 x4 x5 x6) fun h' => fq W_po V_po h h' ∧ (h' = h ∨ hI h' 0 15 = 0 ∧ (hI h' 373 m < hI h' 326 25 ∧ ∀ l, l ≠ m → hI h' 373 l = hI h 373 l) ∧ ∃ X' G', SLe h' n T (m + 1) X' G') := by
  have sl0 := sl
  obtain ⟨sb, sh, nw, ss, sc, sf, sp, sr⟩ := sl
  have sb0 := sb
  obtain ⟨hG, gc, gm, rc, rn, rm, df, L, p, hL, hp, hX, hld⟩ := sb
  have bs0 := bs
  obtain ⟨b1, b2, b3, b4, b5, b6⟩ := bs
  have hm := rc.1.2
  by_cases co : poC n m x1.toInt x2.toInt x3.toInt x4.toInt x5.toInt x6.toInt
  case neg => exact c_pono b4 rc.1.1 _ _ _ _ _ _ co (m_pono b5 rm.1.1 hm _ _ _ _ _ _ co ⟨rfl, fq_rfl _ _ _, Or.inl rfl⟩)
  have h980 := t_len2 b.1 hL
  have b7 : ∀ l, l < m → 1 ≤ X 7 l ∧ X 7 l ≤ 1000 := fun l hl => by
    have w := (hX l hl).2.2.2.2.1
    have := hp.1
    dsimp only at w
    split at w <;> omega
  refine sat_mono (tw_of2 (R := fun hB => hiq h hB ∧ fq [(29, 30), (53, 54), (60, 60)] [((0, 0), 15, 15), ((52, 52), 0, 0), ((52, 52), 10, 10), ((76, 315), 0, 17)] h hB) (Q := fun hB yA yB => yA.1 = yB.1 ∧ poA h m X (hI h 326 0) x2.toInt yA.2 ∧ poB hB m X (hI h 326 0) x2.toInt yB.2 ∧ LtE yA.2 yB.2 m ∧ PrE yA.2 yB.2 m (hI yB.2 375 m) ∧ (∀ k, k < 7 → hI yA.2 (76 + 2 * m) k = hI yB.2 (364 + k) m) ∧ (hI yA.2 (76 + 2 * m) 1 = x2.toInt ∧ hI yA.2 (76 + 2 * m) 2 = x3.toInt ∧ hI yA.2 (76 + 2 * m) 6 = hI h 326 0)) (fun hB hq => ls_post hs bs0 rd ac rc rn rm b7 nw ss co hq.1) ?_) fun yA hyA => sat_mono hyA fun yB hyB => ?_
  · refine sat_mono (ls_post hs bs0 rd ac rc rn rm b7 nw ss co (hB := h) fun _ _ _ => rfl) fun yA hyA => ?_
    obtain ⟨-, -, -, pa, -⟩ := hyA
    exact ⟨pa.1.hiq rfl, pa.1⟩
  obtain ⟨e, ⟨fA, a15, oA, a15m, a18m, rcA, rnA⟩, ⟨fB, oB, rmB⟩, lt, pr, fk, f1, f2, f6⟩ := hyB
  have hq : hiq h yA.2 := fA.hiq rfl
  have lo : loq yA.2 yB.2 := fB.loq rfl
  have l0 : ∀ a k, a < 326 → hI yB.2 a k = hI yA.2 a k := lo.1
  have F : fq W_po V_po h yB.2 := (fA.up rfl rfl).tr (fB.up rfl rfl)
  obtain ⟨-, k2, k3, -, -, -, -, k7⟩ := co
  have la : hI yB.2 373 m < hI yB.2 326 25 := by
    rcases pr.2.2.2.2 with ⟨z, -⟩ | ⟨a, z1, z2, -⟩
    · obtain ⟨c, u, ⟨-, c2, -⟩, -⟩ := id ac
      have := (F.I 326 rfl 25 rfl).trans c2
      omega
    · omega
  refine ⟨e, F, Or.inr ⟨(l0 0 15 (by decide)).trans a15, ⟨la, fun j hj => (oB j hj 373 (by decide) (by decide) (by decide)).trans (hq 373 j (by decide))⟩, _, _, po_sle b.1 sl0 k7 b6 b2 b3 k2 k3 F (fun c k h1 h2 h3 => (l0 c k (by omega)).trans (oA c k h1 h2 h3)) ((l0 _ _ (by omega)).trans a15m) ((l0 _ _ (by omega)).trans a18m) (rcA.lo lo) (rnA.lo (by omega) lo) (fun j hj c h1 h2 h3 => (oB j hj c h1 h2 h3).trans (hq c j (by omega))) rmB ?_ ?_ (fun k hk => (l0 _ _ (by omega)).trans (fk k hk)) ((l0 _ _ (by omega)).trans f1) ((l0 _ _ (by omega)).trans f2) ((l0 _ _ (by omega)).trans f6)⟩⟩
  · have q := fun k => l0 (76 + 2 * m) k (by omega)
    unfold LtE at lt ⊢
    rw [q, q, q, q, q, q, q]
    exact lt
  · have q := fun k => l0 (76 + 2 * m) k (by omega)
    unfold PrE at pr ⊢
    rw [q, q, q, q, q]
    exact pr
end CPX
