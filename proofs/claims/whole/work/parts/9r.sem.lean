/-! calls: found; letters that end on their way, now -/
def XI (h : ea_H) (T : Nat → Nat → Nat → Nat) (L : List Nat) (p m : Nat) (G X : Nat → Nat → Int) : Prop := XOk T m (fun _ => 2 + (p : Int)) X ∧ (∀ l, l < m → Ld1 T L G (fun l => hI h (76 + 2 * l) 6) (fun l => hI h (76 + 2 * l) 1) (fun c => mkB h c l) p X l) ∧ SBh h m X ∧ ∀ l, m ≤ l → l < 120 → X 3 l = 0 ∧ X 7 l = 0
section XIS
variable {T : Nat → Nat → Nat → Nat} {L : List Nat} {p m n : Nat} {X G : Nat → Nat → Int} {h h' : ea_H}
theorem XI.b7 (hp : p ≤ 980) (xi : XI h T L p m G X) : ∀ l, l < m → 1 ≤ X 7 l ∧ X 7 l ≤ 982 ∧ (X 0 l ≤ 3 → X 7 l < 982) := fun l hl => by
  have w := (xi.1 l hl).2.2.2.2.1
  dsimp only at w
  by_cases z : X 0 l ≤ 3
  · rw [if_pos z] at w
    omega
  · rw [if_neg z] at w
    omega
theorem XI.mv (hm : m ≤ 120) (n0 : 0 ≤ hI h 326 0) (n1 : hI h 326 0 ≤ 10079) (hp : fstB L (hI h 326 0).toNat p) (hpl : p ≤ 980) (xi : XI h T L p m G X) {j : Nat} (hj : j < m) (h0 : X 0 j ≤ 3) {st pl : Int} (s0 : 4 ≤ st) (s1 : st ≤ 6) (p0 : 0 ≤ pl) (p1 : pl < 128) : XI h T L p m G (mvX X j (hI h 326 0) st pl) := by
  have b7 := xi.b7 hpl
  obtain ⟨x1, x2, x3, x4⟩ := xi
  have j7 := b7 j hj
  have j7' := j7.2.2 h0
  refine ⟨fun l hl => ?_, fun l hl => ?_, fun l hl => ?_, fun l hl hl2 => ?_⟩
  · have hX := x1 l hl
    by_cases q : l = j
    · subst q
      obtain ⟨a1, a2, a3, a4, ⟨a5, a6⟩, a7⟩ := hX
      rw [if_pos h0] at a6
      unfold XL
      rw [mvX_0, mvX_1, mvX_5, mvX_7, if_pos rfl, if_pos rfl, if_pos rfl, if_pos rfl]
      refine ⟨by omega, fun z => by omega, fun z => by omega, by omega, ⟨by omega, ?_⟩, p0, p1⟩
      rw [if_neg (by omega)]
      omega
    · refine XL_cg ?_ ?_ ?_ ?_ ?_ ?_ hX
      · rw [mvX_0, if_neg q]
      · rw [mvX_1, if_neg q]
      · rw [mvX_2]
      · rw [mvX_4, if_neg q]
      · rw [mvX_5, if_neg q]
      · rw [mvX_7, if_neg q]
  · have l7 := b7 l hl
    by_cases q : l = j
    · subst q
      exact ld_mv hp (by omega) s0 h0 ⟨by omega, by omega⟩ (mvX_mv (by omega)) (x2 l hl)
    · exact Ld1_sal (by omega) (mvX_sa q (by omega) (by omega)) (x2 l hl)
  · have l7 := b7 l hl
    obtain ⟨c1, c2⟩ := x3 l hl
    refine ⟨c1, fun z => ?_⟩
    by_cases q : l = j
    · subst q
      rw [mvX_7, if_pos rfl, mvX_8, if_pos (by omega)]
      omega
    · rw [mvX_0, if_neg q] at z
      rw [mvX_7, if_neg q, mvX_8, if_neg (by omega)]
      exact c2 z
  · rw [mvX_3, mvX_7, if_neg (by omega)]
    exact x4 l hl hl2
theorem SBg.xi (sb : SBg h n T m X G) (sh : SBh h m X) (nw : SNw h m X) : ∃ L p, tList T L ∧ fstB L (hI h 326 0).toNat p ∧ XI h T L p m G X ∧ ∀ l, l < m → 0 ≤ hI h (76 + 2 * l) 6 ∧ hI h (76 + 2 * l) 6 ≤ hI h 326 0 := by
  obtain ⟨-, -, -, -, -, -, -, L, p, hL, hp, hX, hld⟩ := sb
  exact ⟨L, p, hL, hp, ⟨hX, fun l hl => (hld l hl).1, sh, fun l hl hl2 => (nw l hl hl2).2.2.2⟩, fun l hl => (hld l hl).2⟩
theorem SBg.of (hG : G 7 0 = m) (hm : m ≤ 120) (gc : GC G h') (gm : GM n G h') (rc : RC52 m X h') (rn : RN m X h') (rm : RM0 m X h') (df : DFm m (fun _ => hI h' 326 0 / 1440) X h') (hL : tList T L) (hp : fstB L (hI h 326 0).toNat p) (e0 : hI h' 326 0 = hI h 326 0) (le : ltE [1, 6] h h') (mk : ∀ c l, mkB h' c l = mkB h c l) (pb : ∀ l, l < m → 0 ≤ hI h (76 + 2 * l) 6 ∧ hI h (76 + 2 * l) 6 ≤ hI h 326 0) (xi : XI h T L p m G X) : SBg h' n T m X G ∧ SBh h' m X := by
  refine ⟨⟨hG, gc, gm, rc, rn, rm, df, L, p, hL, by rw [e0]; exact hp, xi.1, fun l hl => ⟨?_, ?_⟩⟩, fun l hl => ?_⟩
  · have hmk : (fun c => mkB h' c l) = fun c => mkB h c l := funext fun c => mk c l
    rw [hmk]
    exact Ld1_cg (le l 6 (by omega) (by decide)) (le l 1 (by omega) (by decide)) (xi.2.1 l hl)
  · rw [le l 6 (by omega) (by decide), e0]
    exact pb l hl
  · rw [le l 1 (by omega) (by decide), e0]
    exact xi.2.2.1 l hl
theorem SNw.xi (s : keq [(380, 380), (396, 396)] [] h h') (e : ltE [10, 11, 12, 13, 14, 15, 18] h h') {X' : Nat → Nat → Int} (nw : SNw h m X) (x : ∀ l, m ≤ l → l < 120 → X' 3 l = 0 ∧ X' 7 l = 0) : SNw h' m X' := fun l hl hl2 => by
  rw [e l 10 hl2 (by decide), e l 11 hl2 (by decide), e l 12 hl2 (by decide), e l 13 hl2 (by decide), e l 14 hl2 (by decide), e l 15 hl2 (by decide), e l 18 hl2 (by decide), s.W 380 rfl, s.W 396 rfl]
  exact ⟨(nw l hl hl2).1, (nw l hl hl2).2.1, (nw l hl hl2).2.2.1, x l hl hl2⟩
/-- who is robbed, stays so -/
def rb4 (m : Nat) (X Y : Nat → Nat → Int) : Prop := ∀ l, l < m → (Y 0 l = 4 ↔ X 0 l = 4)
theorem call_found (ok : tOk T) (hs : ShC h) (bs : SBas h n) (sb : SBg h n T m X G) (sh : SBh h m X) (sp : SPl h m) (nw : SNw h m X) (x1 x2 : Int32) : tw (qX11_found x1 x2 h) (qX12_found x1 x2) fun h' => fq [(53, 54), (57, 57), (59, 61), (376, 376), (381, 382), (385, 385), (388, 390)] [((0, 0), 15, 15), ((52, 52), 10, 10), ((76, 315), 16, 17)] h h' ∧ (h' = h ∨ hI h' 0 15 = 0 ∧ ∃ X', SBg h' n T m X' G ∧ SBh h' m X' ∧ SNw h' m X' ∧ rb4 m X X') := by
  obtain ⟨b1, b2, b3, b4, b5, b6⟩ := bs
  obtain ⟨L, p, hL, hp, xi, pb⟩ := sb.xi sh nw
  obtain ⟨hG, gc, gm, rc, rn, rm, df, -⟩ := sb
  have h980 := t_len2 ok hL
  have hpl : p ≤ 980 := by have := hp.1; omega
  have rm0 := rm.1.1
  have hm := rm.1.2
  have b7 := xi.b7 hpl
  have idle : (0 : Int32) = 0 ∧ fq [(53, 54), (57, 57), (59, 61), (376, 376), (381, 382), (385, 385), (388, 390)] [((0, 0), 15, 15), ((52, 52), 10, 10), ((76, 315), 16, 17)] h h ∧ (h = h ∨ hI h 0 15 = 0 ∧ ∃ X', SBg h n T m X' G ∧ SBh h m X' ∧ SNw h m X' ∧ rb4 m X X') := ⟨rfl, fq_rfl _ _ _, Or.inl rfl⟩
  rcases c_letterOf x1 hs rc.1.1 rc.1.2 with ⟨pl, np⟩ | ⟨l, e1, hl, pl⟩
  · unfold tw qX11_found BX11_found_0
    refine sat_call pl (sat_pos rfl (sat_ret ?_))
    show sat (qX12_found x1 x2 h) _
    unfold qX12_found
    refine uqX12_found_0 ?_
    unfold BX12_found_0
    obtain ⟨v1, q1, s1⟩ := m_isLetterOf x1 (h := h) (by omega)
    refine sat_call q1 ?_
    rcases s1 with ⟨r1, s1⟩ | ⟨r1, s1⟩
    · exact sat_pos r1 (sat_ret idle)
    refine sat_neg (by rw [r1]; exact i1_ne_0) ?_
    dsimp only
    exact absurd s1 (by omega)
  have hl' : l < 120 := by omega
  obtain ⟨k1, k2⟩ := ltr_ref hs hl'
  have g1 := vp80 e1 hl'
  have ic : x1.toNatClampNeg = l := by
    rw [n_idx, e1]
    rfl
  have v53 : (ea_i h 53 l).toInt = X 0 l := (rc.2.1 l hl).1
  obtain ⟨c, c1, c2, c3⟩ := sp l hl
  have c4 := c3.1
  have ref : ∀ (h1 : ea_H) (Q : Int32 × ea_H → Prop), hiq h h1 → (¬ X 0 l = 3 → Q (0, h1)) → (X 0 l = 3 → sat (qX12_found_22 x1 x2 0 h1) Q) → sat (qX12_found x1 x2 h1) Q := by
    intro h1 Q hq hno hyes
    have r0 : hI h1 326 63 = hI h 326 63 := hq 326 63 (by decide)
    have v381 : (ea_i h1 381 l).toInt = X 0 l := (hq 381 l (by decide)).trans (rm.2.1 l).1
    unfold qX12_found
    refine uqX12_found_0 ?_
    unfold BX12_found_0
    obtain ⟨v1, q1, s1⟩ := m_isLetterOf x1 (h := h1) (by omega)
    refine sat_call q1 ?_
    rcases s1 with ⟨r1, s1⟩ | ⟨r1, s1⟩
    · exact sat_pos r1 (absurd s1 (by omega))
    refine sat_neg (by rw [r1]; exact i1_ne_0) ?_
    dsimp only
    rw [ic]
    refine sat_gd g1 (sat_ite (fun c => ?_) fun c => ?_)
    · rw [n_eq, v381, l_3] at c
      exact hyes c
    · rw [n_eq, v381, l_3] at c
      exact sat_ret (hno c)
  have walk : ∀ (h1 : ea_H) (Q : Int32 × ea_H → Prop), hiq h h1 → ((∀ j, j < c → hI h 397 (4 * l + j) ≠ x2.toInt) → Q (0, h1)) → ((∃ j, j < c ∧ hI h 397 (4 * l + j) = x2.toInt) → sat (qX12_turns x1 (ea_i h1 326 0) 5 x2 h1) fun w => Q (1, w.2)) → ∀ (j k : Nat) (x3 : Int32), k + j = c → x3.toInt = k → (∀ j, j < k → hI h 397 (4 * l + j) ≠ x2.toInt) → sat (qX12_found_22 x1 x2 x3 h1) Q := by
    intro h1 Q hq hno hyes j
    have v396 : (ea_i h1 396 l).toInt = c := (hq 396 l (by decide)).trans c2
    induction j with
    | zero =>
      intro k x3 hk e3 hn
      refine uqX12_found_22 ?_
      unfold BX12_found_22
      rw [ic]
      exact sat_gd g1 (sat_pos (by rw [n_le, v396, e3]; omega) (sat_ret (hno fun j hj => hn j (by omega))))
    | succ j ih =>
      intro k x3 hk e3 hn
      have i0 : ((4 : Int32) * x1 + x3).toInt = 4 * (l : Int) + k := by simp (disch := omega) only [n_add, n_sub, n_mul, n_neg, n_bm, n_idx, n_if, hI_eq, l_m1000, l_m100, l_m60, l_m19, l_m18, l_m17, l_m16, l_m15, l_m14, l_m13, l_m12, l_m11, l_m10, l_m8, l_m1, l_0, l_1, l_2, l_3, l_4, l_5, l_6, l_7, l_8, l_9, l_10, l_11, l_12, l_13, l_14, l_15, l_16, l_17, l_18, l_19, l_20, l_21, l_24, l_25, l_32, l_40, l_41, l_42, l_43, l_45, l_47, l_48, l_57, l_59, l_60, l_61, l_62, l_63, l_64, l_65, l_70, l_80, l_90, l_97, l_99, l_100, l_120, l_122, l_127, l_144, l_150, l_201, l_202, l_203, l_204, l_205, l_206, l_207, l_255, l_300, l_364, l_480, l_560, l_600, l_601, l_620, l_840, l_900, l_980, l_999, l_1000, l_1023, l_1024, l_1220, l_1439, l_1440, l_2240, l_2400, l_3000, l_3600, l_4095, l_4096, l_7320, l_9999, l_10079, l_10080, l_12000, l_99999, l_120000, l_1000000, l_2147483647, e1, e3]
      have i1 : ((4 : Int32) * x1 + x3).toInt = ((4 * l + k : Nat) : Int) := by
        rw [i0]
        omega
      have ici : ((4 : Int32) * x1 + x3).toNatClampNeg = 4 * l + k := by
        rw [n_idx, i1]
        rfl
      have v397 : (ea_i h1 397 (4 * l + k)).toInt = hI h 397 (4 * l + k) := hq 397 _ (by decide)
      refine uqX12_found_22 ?_
      unfold BX12_found_22
      rw [ic, ici]
      refine sat_gd g1 (sat_neg (by rw [n_le, v396, e3]; omega) (sat_gd (vp80 i1 (by omega)) (sat_ite (fun z => ?_) fun z => ?_)))
      · rw [n_eq, v397] at z
        exact sat_bind (hyes ⟨k, by omega, z⟩) fun w hw => sat_ret hw
      · rw [n_eq, v397] at z
        refine ih (k + 1) (x3 + 1) (by omega) (n_inc e3 (by omega)) fun i hi => ?_
        by_cases w : i = k
        · rw [w]
          exact z
        · exact hn i (by omega)
  have rb : ∀ i, i < c → 0 ≤ hI h (77 + 2 * l) i := fun i hi => by
    obtain ⟨k, k1, k2⟩ := c3.2.2.2.2.1 i hi
    have := c3.2.1 k k1
    dsimp only at this k2
    omega
  obtain ⟨v, q, r⟩ := c_rowOfPlace hs hl' c1 c4 rb (x1 := x2) rfl
  unfold tw qX11_found BX11_found_0
  rw [ic]
  refine sat_call pl (sat_neg (by simp) (sat_gd g1 (sat_eti (fun t => ?_) fun t => ?_)))
  · have t : ¬ ea_i h 53 l = 3 := t
    rw [n_eq, v53, l_3] at t
    exact sat_ret (ref h _ (fun _ _ _ => rfl) (fun _ => idle) fun z => absurd z t)
  have t : ea_i h 53 l = 3 := t
  rw [n_eq, v53, l_3] at t
  refine sat_gd rfl (sat_gd k2 (sat_call q ?_))
  rcases r with ⟨r1, r2⟩ | ⟨i, i1, r1, r2⟩
  · refine sat_pos (n_eq.mpr r1) (sat_ret (ref h _ (fun _ _ _ => rfl) (fun z => absurd t z) fun _ => ?_))
    refine walk h _ (fun _ _ _ => rfl) (fun _ => idle) (fun z => ?_) c 0 0 (by omega) rfl fun j hj => absurd hj (Nat.not_lt_zero j)
    obtain ⟨j, j1, j2⟩ := z
    obtain ⟨i, i1, i2⟩ := c3.2.2.2.2.2 j j1
    have bj := c3.2.1 j j1
    have := r2 i i1
    dsimp only at bj i2
    omega
  obtain ⟨k, w1, w2⟩ := c3.2.2.2.2.1 i i1
  have bk := c3.2.1 k w1
  dsimp only at bk w2
  have ek : hI h 397 (4 * l + k) = x2.toInt := by omega
  have v14 : (ea_i h 0 14).toInt = hI h 326 0 := b1
  have b7l := b7 l hl
  have MV := c_move52 (mn := hI h 326 0) (st := 5) (pl := x2.toInt) (x3 := 5) e1 v14 rfl rfl hs hl rc (fun z => by omega) (fun z => by omega) (by decide) (by decide) (fun z => absurd z (by decide)) (fun z => absurd z (by decide)) (by omega) (by omega) b2 b3 (fun z => absurd z (by decide)) rn (fun k hk => by have := b7 k hk; omega) (by omega)
  refine sat_neg (fun z => by
    have z : v = -1 := z
    rw [n_eq, r1, l_m1] at z
    omega) (sat_bind MV fun y hy => sat_let fun H7 q7 => sat_ret ?_)
  obtain ⟨f1, rc1, rn1⟩ := hy
  have q7 : H7 = ea_wi y.2 0 15 0 := q7
  have f7 : fq [] [((0, 0), 15, 15)] y.2 H7 := q7 ▸ fq_wf rfl
  have F7 : fq [(53, 54), (57, 57), (59, 61)] [((0, 0), 15, 15), ((52, 52), 10, 10), ((76, 315), 16, 17)] h H7 := (f1.up rfl rfl).tr (f7.up rfl rfl)
  have hq : hiq h H7 := F7.hiq rfl
  refine ref H7 _ hq (fun z => absurd t z) fun _ => ?_
  refine walk H7 _ hq (fun z => absurd ek (z k w1)) (fun _ => ?_) c 0 0 (by omega) rfl fun j hj => absurd hj (Nat.not_lt_zero j)
  have u14 : (ea_i H7 326 0).toInt = hI h 326 0 := hq 326 0 (by decide)
  refine sat_mono (m_turns (mn := hI h 326 0) (st := 5) (pl := x2.toInt) (x3 := 5) e1 u14 rfl rfl hl (RM0.hi hq rm) (by omega) (by omega) fun z => absurd z (by decide)) fun w hw => ?_
  obtain ⟨g2, rm2⟩ := hw
  have lo : loq H7 w.2 := g2.loq rfl
  have F : fq [(53, 54), (57, 57), (59, 61), (376, 376), (381, 382), (385, 385), (388, 390)] [((0, 0), 15, 15), ((52, 52), 10, 10), ((76, 315), 16, 17)] h w.2 := (F7.up rfl rfl).tr (g2.up rfl rfl)
  have xi2 := XI.mv hm b2 b3 hp hpl xi hl (by omega) (st := 5) (pl := x2.toInt) (by decide) (by decide) (by omega) (by omega)
  have le : ltE [0, 1, 2, 3, 4, 5, 6, 7, 8, 9, 10, 11, 12, 13, 14, 15, 18] h w.2 := keq.lt (F.kq rfl : keq [] [((76, 315), 0, 15), ((76, 315), 18, 18)] h w.2) rfl
  have S := SBg.of (n := n) hG hm (gc.lq (F.kq rfl) (le.sub rfl)) (gm.kq (F.kq rfl)) (RC52.lo lo (rc1.kq (f7.kq rfl))) (RN.lo hm lo (rn1.lq hm (f7.kq rfl) (keq.lt (f7.kq rfl : keq [] [((76, 315), 16, 17)] y.2 H7) rfl))) rm2 (fun l' hl2 hz => ?_) hL hp (F.I 326 rfl 0 rfl) (le.sub rfl) (fun c l => mkB_fq F rfl c l) pb xi2
  · refine ⟨rfl, F, Or.inr ⟨?_, _, S.1, S.2, nw.xi (F.kq rfl) (le.sub rfl) xi2.2.2.2, fun l' hl2 => ?_⟩⟩
    · show hI w.2 0 15 = 0
      rw [lo.1 0 15 (by decide), q7, hI_at]
      rfl
    · rw [mvX_0]
      by_cases z : l' = l
      · rw [if_pos z, z]
        omega
      · rw [if_neg z]
  · rw [mvX_0] at hz
    rw [mvX_5]
    by_cases z : l' = l
    · rw [if_pos z] at hz
      omega
    · rw [if_neg z] at hz
      rw [if_neg z, F.C 377 rfl rfl, F.I 326 rfl 0 rfl]
      exact df l' hl2 hz
end XIS
