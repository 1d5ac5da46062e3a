section CR
variable {T : Nat → Nat → Nat → Nat} {m n : Nat} {X G : Nat → Nat → Int} {h : ea_H}
theorem c_underWay (ok : tOk T) (b : CTab h T) {x1 x2 : Int32} {t d : Nat} {g : Int} (e1 : x1.toInt = t) (e2 : x2.toInt = d) (ht : t < 10) (hd : d < 7) (hg : gnP T t d (hI h 0 14) g) (n0 : 0 ≤ hI h 0 14) : ∃ v, qX11_isUnderWay x1 x2 h = some (v, h) ∧ ((v = 1 ∧ g ≠ -1 ∧ hI h 0 14 < tCm T t d (g + 1).toNat) ∨ (v = 0 ∧ ¬ (g ≠ -1 ∧ hI h 0 14 < tCm T t d (g + 1).toNat))) := by
  have H : sat (qX11_isUnderWay x1 x2 h) fun y => y.2 = h ∧ ((y.1 = 1 ∧ g ≠ -1 ∧ hI h 0 14 < tCm T t d (g + 1).toNat) ∨ (y.1 = 0 ∧ ¬ (g ≠ -1 ∧ hI h 0 14 < tCm T t d (g + 1).toNat))) := by
    have v14 : (ea_i h 0 14).toInt = hI h 0 14 := rfl
    unfold qX11_isUnderWay BX11_isUnderWay_0
    refine sat_bind (c_gone ok b e1 e2 v14 ht hd) fun y hy => ?_
    obtain ⟨y1, y2⟩ := hy
    have ev := gnP_u y2 hg
    rw [y1]
    refine sat_ite (fun z => ?_) fun z => ?_
    · rw [n_eq, ev, l_m1] at z
      exact sat_ret ⟨rfl, Or.inr ⟨rfl, fun w => w.1 z⟩⟩
    rw [n_eq, ev, l_m1] at z
    have hs := ok.2.1 t ht
    obtain ⟨g1, g2, -⟩ := hg
    have e3 : (y.1 + (1 : Int32)).toInt = (((g + 1).toNat : Nat) : Int) := by
      rw [n_add, ev, l_1, n_bm (by omega) (by omega)]
      omega
    obtain ⟨v, p, q⟩ := c_comesAt e1 e2 e3 b ok ht hd (by omega)
    refine sat_call p (sat_ite (fun w => ?_) fun w => ?_)
    · have w : v ≤ ea_i h 0 14 := w
      rw [n_le, q, v14] at w
      exact sat_ret ⟨rfl, Or.inr ⟨rfl, fun u => by have := u.2; omega⟩⟩
    · have w : ¬ v ≤ ea_i h 0 14 := w
      rw [n_le, q, v14] at w
      exact sat_ret ⟨rfl, Or.inl ⟨rfl, z, by omega⟩⟩
  obtain ⟨⟨v, h2⟩, q1, q2, q3⟩ := H
  have q2 : h2 = h := q2
  subst q2
  exact ⟨v, q1, q3⟩
theorem gnP_ex (ok : tOk T) (t d : Nat) (ht : t < 10) (hd : d < 7) {h : ea_H} (b : CTab h T) : ∃ g, gnP T t d (hI h 0 14) g := by
  obtain ⟨y, -, -, y2⟩ := c_gone (x1 := Int32.ofNat t) (x2 := Int32.ofNat d) (x3 := ea_i h 0 14) (t := t) (d := d) (now := hI h 0 14) ok b (Int32.toInt_ofNat_of_lt (by omega)) (Int32.toInt_ofNat_of_lt (by omega)) rfl ht hd
  exact ⟨_, y2⟩
def W_rob : List (Nat × Nat) := [(53, 54), (57, 57), (59, 61), (73, 75), (376, 376), (381, 382), (385, 385), (388, 390), (399, 403)]
def V_rob : List ((Nat × Nat) × Nat × Nat) := [((0, 0), 13, 13), ((0, 0), 15, 15), ((52, 52), 10, 10), ((76, 315), 16, 17), ((326, 326), 100, 100)]
theorem call_rob (hs : ShC h) (bs : SBas h n) (b : STb h T) (sb : SBg h n T m X G) (sh : SBh h m X) (nw : SNw h m X) (rb : SRb h m X) (x1 x2 : Int32) : tw (qX11_rob x1 x2 h) (qX12_rob x1 x2) fun h' => fq W_rob V_rob h h' ∧ (h' = h ∨ hI h' 0 15 = 0 ∧ ∃ X', SBg h' n T m X' G ∧ SBh h' m X' ∧ SNw h' m X' ∧ SRb h' m X') := by
  obtain ⟨b1, b2, b3, b4, b5, b6⟩ := bs
  obtain ⟨ok, cC, cM⟩ := b
  obtain ⟨L, p, hL, hp, xi, pb⟩ := sb.xi sh nw
  obtain ⟨hG, gc, gm, rc, rn, rm, df, -⟩ := sb
  have h980 := t_len2 ok hL
  have hpl : p ≤ 980 := by have := hp.1; omega
  have hm := rm.1.2
  have b7 := xi.b7 hpl
  have rb0 := rb
  obtain ⟨k, ⟨c1, c2, c3⟩, c4, c5, c6⟩ := rb
  have hN : hI h 5 0 = tN T := cC.1
  have ok1 := ok.1
  have idle : (-1 : Int32) = -1 ∧ fq W_rob V_rob h h ∧ (h = h ∨ hI h 0 15 = 0 ∧ ∃ X', SBg h n T m X' G ∧ SBh h m X' ∧ SNw h m X' ∧ SRb h m X') := ⟨rfl, fq_rfl _ _ _, Or.inl rfl⟩
  have v13 : (ea_i h 0 13).toInt = k := c1
  by_cases hc : (0 ≤ x1.toInt ∧ x1.toInt < tN T) ∧ 0 ≤ x2.toInt ∧ x2.toInt < 7
  case neg =>
    unfold tw qX11_rob
    refine uqX11_rob_0 ?_
    unfold BX11_rob_0
    obtain ⟨v, q, r⟩ := c_hasRun x1 x2 h
    rw [hN] at r
    rcases r with ⟨r1, r2⟩ | ⟨r1, r2⟩
    case inr => exact absurd r2 hc
    refine sat_call q (sat_pos r1 (sat_ret ?_))
    show sat (qX12_rob x1 x2 h) _
    have hN2 : hI h 326 2 = tN T := cM.1
    unfold qX12_rob
    refine uqX12_rob_0 ?_
    unfold BX12_rob_0
    obtain ⟨v1, q1, s1⟩ := m_isTrain x1 (h := h) (by omega)
    refine sat_call q1 ?_
    rcases s1 with ⟨r1, s1⟩ | ⟨r1, s1⟩
    · exact sat_pos r1 (sat_ret idle)
    refine sat_neg (by rw [r1]; exact i1_ne_0) ?_
    dsimp only
    obtain ⟨v2, q2, s2⟩ := m_isDay x2 h
    refine sat_call q2 ?_
    rcases s2 with ⟨r2, s2⟩ | ⟨r2, s2⟩
    · exact sat_pos r2 (sat_ret idle)
    refine sat_neg (by rw [r2]; exact i1_ne_0) ?_
    dsimp only
    omega
  obtain ⟨t, e1⟩ : ∃ t : Nat, x1.toInt = t := ⟨x1.toInt.toNat, by omega⟩
  obtain ⟨d, e2⟩ : ∃ d : Nat, x2.toInt = d := ⟨x2.toInt.toNat, by omega⟩
  have ht : t < 10 := by omega
  have hd : d < 7 := by omega
  have hts := ok.2.1 t ht
  obtain ⟨g, hg⟩ := gnP_ex ok t d ht hd cC
  have hg2 := hg
  rw [b1] at hg2
  -- the reference, up to its walk
  have ref : ∀ (h1 : ea_H) (Q : Int32 × ea_H → Prop), hiq h h1 → (¬ (k < 20 ∧ g ≠ -1 ∧ hI h 326 0 < tCm T t d (g + 1).toNat) → Q (-1, h1)) → ((k < 20 ∧ g ≠ -1 ∧ hI h 326 0 < tCm T t d (g + 1).toNat) → ∀ (v w u : Int32), v.toInt = ((7 * t + d : Nat) : Int) → w.toInt = ((10 * d + t : Nat) : Int) → u.toInt = ((k + 1 : Nat) : Int) → sat (qX12_rob_104 v (ea_i h1 326 100) 0 (ea_wi (ea_wi (ea_wi h1 326 100 u) 399 k w) 400 k (ea_i h1 326 0))) Q) → sat (qX12_rob x1 x2 h1) Q := by
    intro h1 Q hq hno hyes
    have hN2 : hI h1 326 2 = tN T := (hq 326 2 (by decide)).trans cM.1
    have v100 : (ea_i h1 326 100).toInt = k := (hq 326 100 (by decide)).trans c2
    have v0 : (ea_i h1 326 0).toInt = hI h 326 0 := hq 326 0 (by decide)
    have v7 : ((7 : Int32) * x1 + x2).toInt = ((7 * t + d : Nat) : Int) := by
      rw [n_add, n_mul, e1, e2, l_7, n_bm (z := 7 * (t : Int)) (by omega) (by omega), n_bm (by omega) (by omega)]
      omega
    unfold qX12_rob
    refine uqX12_rob_0 ?_
    unfold BX12_rob_0
    obtain ⟨v1, q1, s1⟩ := m_isTrain x1 (h := h1) (by omega)
    refine sat_call q1 ?_
    rcases s1 with ⟨r1, s1⟩ | ⟨r1, s1⟩
    · exact sat_pos r1 (absurd s1 (by omega))
    refine sat_neg (by rw [r1]; exact i1_ne_0) ?_
    dsimp only
    obtain ⟨v2, q2, s2⟩ := m_isDay x2 h1
    refine sat_call q2 ?_
    rcases s2 with ⟨r2, s2⟩ | ⟨r2, s2⟩
    · exact sat_pos r2 (absurd s2 (by omega))
    refine sat_neg (by rw [r2]; exact i1_ne_0) ?_
    dsimp only
    refine sat_ite (fun z => ?_) fun z => ?_
    · rw [n_eq, v100, l_20] at z
      exact sat_ret (hno (by omega))
    rw [n_eq, v100, l_20] at z
    unfold qX12_run BX12_run_0
    refine sat_call rfl ?_
    dsimp only
    refine sat_bind (m_gone ok (MTab.hi hq cM) v7 ht hd) fun y hy => ?_
    obtain ⟨y1, y2⟩ := hy
    have v0' : hI h1 326 0 = hI h 326 0 := v0
    rw [v0'] at y2
    have ev := gnP_u y2 hg2
    rw [y1]
    refine sat_ite (fun w => ?_) fun w => ?_
    · rw [n_eq, ev, l_m1] at w
      exact sat_ret (hno fun u => u.2.1 w)
    rw [n_eq, ev, l_m1] at w
    have g1 := hg.1
    have g2 := hg.2.1
    have e3 : (y.1 + (1 : Int32)).toInt = (((g + 1).toNat : Nat) : Int) := by
      rw [n_add, ev, l_1, n_bm (by omega) (by omega)]
      omega
    obtain ⟨v, q, r⟩ := m_comesAt v7 e3 (MTab.hi hq cM) ok ht hd (by omega)
    refine sat_call q (sat_ite (fun u => ?_) fun u => ?_)
    · have u : ea_i h1 326 0 < v := u
      rw [n_lt, v0, r] at u
      have hk : k < 20 := by omega
      have ick : (ea_i h1 326 100).toNatClampNeg = k := by
        rw [n_idx, v100]
        rfl
      have gk := vp80 v100 hk
      refine sat_sub (sat_let fun H7 q7 => ?_)
      have q7 : H7 = ea_wi h1 326 100 (ea_i h1 326 100 + 1) := q7
      obtain ⟨vc, pc, qc⟩ := m_code v7 ht hd H7
      refine sat_call pc ?_
      dsimp only
      rw [ick]
      refine sat_gd gk (sat_let fun H10 q10 => sat_gd gk (sat_let fun H12 q12 => ?_))
      have := hyes ⟨hk, w, u⟩ _ vc (ea_i h1 326 100 + 1) v7 qc (n_inc v100 (by omega))
      have e10 : ea_i H10 326 0 = ea_i h1 326 0 := by rw [q10, i_ne (by decide), q7, i_nk (by decide)]
      rw [← q7, ← q10, ← e10, ← q12] at this
      exact this
    · have u : ¬ ea_i h1 326 0 < v := u
      rw [n_lt, v0, r] at u
      exact sat_ret (hno fun a => u a.2.2)
  have no : ¬ (k < 20 ∧ g ≠ -1 ∧ hI h 326 0 < tCm T t d (g + 1).toNat) → sat (some ((-1 : Int32), h)) fun y => sat (qX12_rob x1 x2 y.2) fun z => y.1 = z.1 ∧ fq W_rob V_rob h z.2 ∧ (z.2 = h ∨ hI z.2 0 15 = 0 ∧ ∃ X', SBg z.2 n T m X' G ∧ SBh z.2 m X' ∧ SNw z.2 m X' ∧ SRb z.2 m X') := fun hn => sat_ret (ref h _ (fun _ _ _ => rfl) (fun _ => idle) fun z => absurd z hn)
  unfold tw qX11_rob
  refine uqX11_rob_0 ?_
  unfold BX11_rob_0
  obtain ⟨v, q, r⟩ := c_hasRun x1 x2 h
  rw [hN] at r
  rcases r with ⟨r1, r2⟩ | ⟨r1, r2⟩
  · exact absurd hc r2
  refine sat_call q (sat_neg (by rw [r1]; exact i1_ne_0) (sat_ite (fun z => ?_) fun z => ?_))
  · have z : (20 : Int32) ≤ ea_i h 0 13 := z
    rw [n_le, v13, l_20] at z
    exact no (by omega)
  have z : ¬ (20 : Int32) ≤ ea_i h 0 13 := z
  rw [n_le, v13, l_20] at z
  have hk : k < 20 := by omega
  obtain ⟨vu, pu, ru⟩ := c_underWay ok cC e1 e2 ht hd hg (by omega)
  rw [b1] at ru
  refine sat_call pu ?_
  rcases ru with ⟨ru1, ru2⟩ | ⟨ru1, ru2⟩
  case inr => exact sat_pos ru1 (no fun u => ru2 u.2)
  have vr : ((10 : Int32) * x2 + x1).toInt = ((10 * d + t : Nat) : Int) := by
    rw [n_add, n_mul, e1, e2, l_10, n_bm (z := 10 * (d : Int)) (by omega) (by omega), n_bm (by omega) (by omega)]
    omega
  have ick : (ea_i h 0 13).toNatClampNeg = k := by
    rw [n_idx, v13]
    rfl
  have gk := vp80 v13 hk
  refine sat_neg (by rw [ru1]; exact i1_ne_0) (sat_sub (sat_sub ?_))
  dsimp only
  rw [ick]
  refine sat_gd gk (sat_let fun H6 q6 => sat_gd gk (sat_let fun H8 q8 => sat_let fun H9 q9 => ?_))
  have f9 : fq [(73, 75)] [((0, 0), 13, 13)] h H9 := (q6 ▸ fq_wi rfl : fq [(73, 75)] [((0, 0), 13, 13)] h H6).tr ((q8 ▸ fq_wi rfl : fq [(73, 75)] [((0, 0), 13, 13)] H6 H8).tr (q9 ▸ fq_wf rfl))
  have u13 : hI H9 0 13 = ((k + 1 : Nat) : Int) := by
    have : ea_i H8 0 13 = ea_i h 0 13 := by rw [q8, i_ne (by decide), q6, i_ne (by decide)]
    rw [q9, hI_at, this, n_inc v13 (by omega)]
  have u73 : ∀ i, hI H9 73 i = if i = k then ((10 * d + t : Nat) : Int) else hI h 73 i := fun i => by
    rw [q9, hI_ne (by decide), q8, hI_ne (by decide), q6, hI_row, vr]
  have u74 : ∀ i, hI H9 74 i = if i = k then hI h 326 0 else hI h 74 i := fun i => by
    have : (ea_i H6 0 14).toInt = hI h 326 0 := by
      rw [q6, i_ne (by decide)]
      exact b1
    rw [q9, hI_ne (by decide), q8, hI_row, this, q6, hI_ne (by decide)]
  have u75 : ∀ i, hI H9 75 i = hI h 75 i := fun i => by
    rw [q9, hI_ne (by decide), q8, hI_ne (by decide), q6, hI_ne (by decide)]
  refine sat_mono (c_rob77 (h0 := H9) hm b2 b3 hpl hp xi (rn := 10 * d + t) (by omega) vr v13 (ShC_core f9.1 hs) ((f9.I 0 rfl 14 rfl).trans b1) m 0 0 H9 (by omega) rfl (fq_rfl _ _ _) (rc.kq (f9.kq rfl)) (rn.lq hm (f9.kq rfl) (keq.lt (f9.kq rfl : keq [] [((76, 315), 16, 17)] h H9) rfl)) fun l => ⟨fun a => absurd a.1 (Nat.not_lt_zero l), fun _ => rfl⟩) fun y hy => ?_
  obtain ⟨y0, f10, y15, rcy, rny, y75⟩ := hy
  have Fy : fq [(53, 54), (57, 57), (59, 61), (73, 75)] [((0, 0), 13, 13), ((0, 0), 15, 15), ((52, 52), 10, 10), ((76, 315), 16, 17)] h y.2 := (f9.up rfl rfl).tr (f10.up rfl rfl)
  have hq : hiq h y.2 := Fy.hiq rfl
  refine ref y.2 _ hq (fun a => absurd ⟨hk, ru2⟩ a) fun _ v7 w u ev ew eu => ?_
  have g3 : fq [(399, 400)] [((326, 326), 100, 100)] y.2 (ea_wi (ea_wi (ea_wi y.2 326 100 u) 399 k w) 400 k (ea_i y.2 326 0)) := (fq_wf rfl).tr ((fq_wi rfl).tr (fq_wi rfl))
  have w399 : ∀ i, hI (ea_wi (ea_wi (ea_wi y.2 326 100 u) 399 k w) 400 k (ea_i y.2 326 0)) 399 i = if i = k then ((10 * d + t : Nat) : Int) else hI h 399 i := fun i => by
    rw [hI_ne (by decide), hI_row, ew, hI_ne (by decide), hq 399 i (by decide)]
  have w400 : ∀ i, hI (ea_wi (ea_wi (ea_wi y.2 326 100 u) 399 k w) 400 k (ea_i y.2 326 0)) 400 i = if i = k then hI h 326 0 else hI h 400 i := fun i => by
    rw [hI_row, hI_ne (by decide), hI_ne (by decide), hq 400 i (by decide)]
    have : (ea_i y.2 326 0).toInt = hI h 326 0 := hq 326 0 (by decide)
    rw [this]
  have w100 : hI (ea_wi (ea_wi (ea_wi y.2 326 100 u) 399 k w) 400 k (ea_i y.2 326 0)) 326 100 = ((k + 1 : Nat) : Int) := by
    rw [hI_ne (by decide), hI_ne (by decide), hI_at]
    exact eu
  have e100 : (ea_i y.2 326 100).toInt = k := (hq 326 100 (by decide)).trans c2
  generalize ea_wi (ea_wi (ea_wi y.2 326 100 u) 399 k w) 400 k (ea_i y.2 326 0) = H0 at *
  have oth : ∀ a i, 326 ≤ a → a ≠ 326 → a ≠ 399 → a ≠ 400 → hI H0 a i = hI h a i := fun a i ha h1 h2 h3 => by
    refine (g3.I a ?_ i ?_).trans (hq a i ha)
    · rw [Bool.eq_false_iff]
      intro z
      obtain ⟨q, q1, q2, q3⟩ := inB_iff.mp z
      rw [List.mem_singleton.mp q1] at q2 q3
      dsimp only at q2 q3
      omega
    · exact outP_in (outP_one (by omega)) i
  have rm0 : RM0 m X H0 := (RM0.hi hq rm).kq (g3.kq rfl)
  refine sat_mono (m_rob104 (h0 := H0) hm b2 b3 hpl hp xi ht hd hk ev e100 ((g3.I 326 rfl 0 rfl).trans (hq 326 0 (by decide))) (by rw [oth 401 k (by decide) (by decide) (by decide) (by decide), oth 402 k (by decide) (by decide) (by decide) (by decide)]; exact c6 k (Nat.le_refl k) hk) (fun l => ?_) (fun l hl hz => (oth 377 l (by decide) (by decide) (by decide) (by decide)).trans (df l hl hz)) m 0 0 H0 (by omega) rfl (fq_rfl _ _ _) rm0 (fun i => ?_) (fun i => ?_) fun i j' hi hj => ?_) fun zz hz => ?_
  · have a : ea_i H0 374 l = ea_i h 374 l := n_eq.mpr (oth 374 l (by decide) (by decide) (by decide) (by decide))
    unfold owI
    rw [a, oth 364 l (by decide) (by decide) (by decide) (by decide)]
  · by_cases a : i = k
    · rw [if_pos a, a, oth 401 k (by decide) (by decide) (by decide) (by decide)]
      exact (c6 k (Nat.le_refl k) hk).1
    · rw [if_neg a]
  · by_cases a : i = k
    · rw [if_pos a, a, oth 402 k (by decide) (by decide) (by decide) (by decide)]
      exact (c6 k (Nat.le_refl k) hk).2
    · rw [if_neg a]
  · rw [if_neg]
    intro a
    have := a.2
    have : cnt (rlC ((10 * d + t : Nat) : Int) X) 0 = 0 := rfl
    omega
  obtain ⟨z0, f4, rmz, z401, z402, z403⟩ := hz
  have lo : loq y.2 zz.2 := ((g3.up rfl rfl : fq [(376, 376), (381, 382), (385, 385), (388, 390), (399, 403)] [((326, 326), 100, 100)] y.2 H0).tr (f4.up rfl rfl)).loq rfl
  have F : fq W_rob V_rob h zz.2 := (Fy.up rfl rfl).tr ((g3.up rfl rfl).tr (f4.up rfl rfl))
  have xi2 := rlF_xi (r := ((10 * d + t : Nat) : Int)) hm b2 b3 hp hpl (by omega) (by omega) xi m (Nat.le_refl m)
  have le : ltE [0, 1, 2, 3, 4, 5, 6, 7, 8, 9, 10, 11, 12, 13, 14, 15, 18] h zz.2 := keq.lt (F.kq rfl : keq [] [((76, 315), 0, 15), ((76, 315), 18, 18)] h zz.2) rfl
  have at4 : ∀ l, l < m → (rlC ((10 * d + t : Nat) : Int) X l → rlF ((10 * d + t : Nat) : Int) (hI h 326 0) X m 0 l = 4) ∧ (¬ rlC ((10 * d + t : Nat) : Int) X l → ∀ f, f ≤ 7 → rlF ((10 * d + t : Nat) : Int) (hI h 326 0) X m f l = X f l) := fun l hl => rlF_at m l hl
  have S := SBg.of (n := n) hG hm (gc.lq (F.kq rfl) (le.sub rfl)) (gm.kq (F.kq rfl)) (RC52.lo lo rcy) (RN.lo hm lo rny) rmz (fun l hl hz => ?_) hL hp (F.I 326 rfl 0 rfl) (le.sub rfl) (fun c l => mkB_fq F rfl c l) pb xi2
  · have t75 : ∀ l, l < m → (rlC ((10 * d + t : Nat) : Int) X l → hI zz.2 75 l = k) ∧ (¬ rlC ((10 * d + t : Nat) : Int) X l → hI zz.2 75 l = hI h 75 l) := fun l hl => by
      rw [lo.1 75 l (by decide)]
      exact ⟨fun a => (y75 l).1 ⟨hl, a⟩, fun a => ((y75 l).2 fun u => a u.2).trans (u75 l)⟩
    have old : ∀ i, i < k → ∀ l, l < m → (rbP zz.2 (rlF ((10 * d + t : Nat) : Int) (hI h 326 0) X m) i l ↔ rbP h X i l) := fun i hi l hl => by
      unfold rbP
      by_cases a : rlC ((10 * d + t : Nat) : Int) X l
      · rw [(at4 l hl).1 a, (t75 l hl).1 a]
        exact ⟨fun u => by have := u.2; omega, fun u => by have a0 := a.1; have := u.1; omega⟩
      · rw [(at4 l hl).2 a 0 (by decide), (t75 l hl).2 a]
    have new : ∀ l, l < m → (rbP zz.2 (rlF ((10 * d + t : Nat) : Int) (hI h 326 0) X m) k l ↔ rlC ((10 * d + t : Nat) : Int) X l) := fun l hl => by
      unfold rbP
      by_cases a : rlC ((10 * d + t : Nat) : Int) X l
      · rw [(at4 l hl).1 a, (t75 l hl).1 a]
        exact ⟨fun _ => a, fun _ => ⟨rfl, rfl⟩⟩
      · rw [(at4 l hl).2 a 0 (by decide), (t75 l hl).2 a]
        exact ⟨fun u => by have := (c4 l hl u.1).2; have := u.2; omega, fun u => absurd u a⟩
    have oz : ∀ l, owI zz.2 l = owI h l := fun l => owI_kq (F.kq rfl) l
    refine ⟨y0.trans (n_eq.mpr ?_), F, Or.inr ⟨?_, _, S.1, S.2, nw.xi (F.kq rfl) (le.sub rfl) xi2.2.2.2, k + 1, ⟨?_, ?_, by omega⟩, fun l hl h4 => ?_, fun i hi => ?_, fun i hi hi2 => ?_⟩⟩
    · rw [z0, v13, e100]
    · exact (lo.1 0 15 (by decide)).trans y15
    · rw [lo.1 0 13 (by decide), f10.I 0 rfl 13 rfl]
      exact u13
    · rw [f4.I 326 rfl 100 rfl]
      exact w100
    · by_cases a : rlC ((10 * d + t : Nat) : Int) X l
      · rw [(t75 l hl).1 a]
        omega
      · rw [(at4 l hl).2 a 0 (by decide)] at h4
        rw [(t75 l hl).2 a]
        have := c4 l hl h4
        omega
    · have q73 : ∀ i, hI zz.2 73 i = if i = k then ((10 * d + t : Nat) : Int) else hI h 73 i := fun i => by rw [lo.1 73 i (by decide), f10.C 73 rfl rfl, u73]
      have q74 : ∀ i, hI zz.2 74 i = if i = k then hI h 326 0 else hI h 74 i := fun i => by rw [lo.1 74 i (by decide), f10.C 74 rfl rfl, u74]
      rw [q73, q74, f4.C 399 rfl rfl, f4.C 400 rfl rfl, w399, w400, z401, z402]
      by_cases a : i = k
      · subst a
        have ce : cnt (rbP zz.2 (rlF ((10 * d + t : Nat) : Int) (hI h 326 0) X m) i) m = cnt (rlC ((10 * d + t : Nat) : Int) X) m := cnt_eq new
        rw [if_pos rfl, if_pos rfl, if_pos rfl, if_pos rfl, if_pos rfl, if_pos rfl, ce, owS_cg (h := h) (Q := rlC ((10 * d + t : Nat) : Int) X) m fun l hl => ⟨new l hl, oz l⟩]
        refine ⟨rfl, rfl, rfl, rfl, fun j hj => ?_⟩
        have cb := cnt_b (rlC ((10 * d + t : Nat) : Int) X) m
        rw [z403 i j hk (by omega), if_pos ⟨rfl, hj⟩, acN_cg (Q := rlC ((10 * d + t : Nat) : Int) X) m new]
      · obtain ⟨d1, d2, d3, d4, d5⟩ := c5 i (by omega)
        have O := old i (by omega)
        have ce : cnt (rbP zz.2 (rlF ((10 * d + t : Nat) : Int) (hI h 326 0) X m) i) m = cnt (rbP h X i) m := cnt_eq O
        rw [if_neg a, if_neg a, if_neg a, if_neg a, if_neg a, if_neg a, oth 401 i (by decide) (by decide) (by decide) (by decide), oth 402 i (by decide) (by decide) (by decide) (by decide), ce, owS_cg (h := h) (Q := rbP h X i) m fun l hl => ⟨O l hl, oz l⟩]
        refine ⟨d1, d2, d3, d4, fun j hj => ?_⟩
        have cb := cnt_b (rbP h X i) m
        rw [z403 i j (by omega) (by omega), if_neg (fun u => a u.1), oth 403 _ (by decide) (by decide) (by decide) (by decide), acN_cg (Q := rbP h X i) m O]
        exact d5 j hj
    · rw [z401, z402, if_neg (by omega), if_neg (by omega), oth 401 i (by decide) (by decide) (by decide) (by decide), oth 402 i (by decide) (by decide) (by decide) (by decide)]
      exact c6 i (by omega) hi2
  · by_cases a : rlC ((10 * d + t : Nat) : Int) X l
    · rw [(at4 l hl).1 a] at hz
      omega
    · rw [(at4 l hl).2 a 0 (by decide)] at hz
      rw [(at4 l hl).2 a 5 (by decide), F.C 377 rfl rfl, F.I 326 rfl 0 rfl]
      exact df l hl hz
end CR
