/-! calls: lead -/
section LE
variable {T : Nat → Nat → Nat → Nat} {L : List Nat} {G : Nat → Nat → Int} {m : Nat} {X : Nat → Nat → Int} {h : ea_H}
def RwB (X : Nat → Nat → Int) (l : Nat) (now : Int) : Prop := ∀ r : Nat, (r : Int) < X 7 l → (0 ≤ X 8 (1000 * l + r) ∧ X 8 (1000 * l + r) ≤ now) ∧ (0 ≤ X 9 (1000 * l + r) ∧ X 9 (1000 * l + r) ≤ 6) ∧ 0 ≤ X 10 (1000 * l + r) ∧ X 10 (1000 * l + r) < 128
/-- where a letter was posted; the last row of one that is no more on its way -/
def SBh (h : ea_H) (m : Nat) (X : Nat → Nat → Int) : Prop := ∀ l, l < m → (0 ≤ hI h (76 + 2 * l) 1 ∧ hI h (76 + 2 * l) 1 < 12) ∧ (4 ≤ X 0 l → 0 ≤ X 8 (1000 * l + (X 7 l - 1).toNat) ∧ X 8 (1000 * l + (X 7 l - 1).toNat) ≤ hI h 326 0)
theorem row_b (ok : tOk T) (hL : tList T L) {pf fr : Nat → Int} {M : Nat → Bool} {p l : Nat} {now b : Int} (n0 : 0 ≤ now) (hp : fstB L now.toNat p) (ld : Ld1 T L G pf fr M p X l) (hX : XL T b X l) (p0 : 0 ≤ pf l) (p1 : pf l ≤ now) (f0 : 0 ≤ fr l) (f1 : fr l < 12) (ht : 4 ≤ X 0 l → 0 ≤ X 8 (1000 * l + (X 7 l - 1).toNat) ∧ X 8 (1000 * l + (X 7 l - 1).toNat) ≤ now) : RwB X l now := by
  obtain ⟨d1, d2, ⟨d3, d4, d5⟩, d6, d7, d8⟩ := ld
  obtain ⟨⟨x0, x1⟩, -, -, -, -, x7, x8⟩ := hX
  intro r hr
  by_cases z : r = 0
  · rw [z, Nat.add_zero, d3, d4, d5]
    omega
  by_cases w : r ≤ (ldK L M p).length
  · have hk : r - 1 < (ldK L M p).length := by omega
    obtain ⟨a1, a2, a3⟩ := d6 _ hk
    have hmem := getD_mem hk
    generalize hx : (ldK L M p).getD (r - 1) 0 = x at *
    have hmem2 : x ∈ L.take p := (List.mem_filter.mp hmem).1
    obtain ⟨j, j1, j2, j3⟩ := take_at hmem2
    have hkey : tKey T x := (hL.2 _).mp (j3 ▸ getD_mem j2)
    obtain ⟨t1, t2, t3, t4, t5, t6, t7, t8⟩ := t_bounds ok hkey
    have hmin := (hp.2 j j2).mp j1
    rw [j3] at hmin
    have sc := stIn_c G l (kA (tW T) x)
    rw [show r = 1 + (r - 1) by omega, a1, a2, a3]
    split <;> omega
  · have h4 : 4 ≤ X 0 l := by
      apply Classical.byContradiction
      intro q
      rw [if_neg q] at d2
      omega
    obtain ⟨a1, a2, a3⟩ := d8 h4
    obtain ⟨b1, b2⟩ := ht h4
    rw [if_pos h4] at d2
    have er : r = 1 + (ldK L M p).length := by omega
    have e7 : (X 7 l - 1).toNat = r := by omega
    rw [e7] at b1 b2
    rw [← er] at a1 a2
    rw [a1, a2]
    omega
theorem c_minOf {x : Int32} {mi st pl : Int} (e : x.toInt = mi * 1024 + st * 128 + pl) (s0 : 0 ≤ st) (s1 : st ≤ 6) (p0 : 0 ≤ pl) (p1 : pl < 128) (h : ea_H) : ∃ v, qX5_minuteOf x h = some (v, h) ∧ v.toInt = mi := ⟨_, rfl, by rw [s_shr_10, e]; omega⟩
theorem c_stOf {x : Int32} {mi st pl : Int} (e : x.toInt = mi * 1024 + st * 128 + pl) (m0 : 0 ≤ mi) (s0 : 0 ≤ st) (s1 : st ≤ 6) (p0 : 0 ≤ pl) (p1 : pl < 128) (h : ea_H) : ∃ v, qX5_stateOf x h = some (v, h) ∧ v.toInt = st := ⟨_, rfl, by rw [s_and_7 (by rw [s_shr_7, e]; omega), s_shr_7, e]; omega⟩
theorem c_plOf {x : Int32} {mi st pl : Int} (e : x.toInt = mi * 1024 + st * 128 + pl) (m0 : 0 ≤ mi) (s0 : 0 ≤ st) (s1 : st ≤ 6) (p0 : 0 ≤ pl) (p1 : pl < 128) (h : ea_H) : ∃ v, qX5_placeOf x h = some (v, h) ∧ v.toInt = pl := ⟨_, rfl, by rw [s_and_127 (by rw [e]; omega), e]; omega⟩
theorem c_rowOf (ok : tOk T) (hL : tList T L) (hs : ShC h) (hT : CTab h T) (wc : SWyC h T) (gc : GC G h) (hG : G 7 0 = m) (hm : m ≤ 120) (rn : RN m X h) {l p q i t : Nat} (hl : l < m) {now : Int} (hnow : now ≤ 10079) (ld : Ld1 T L G (fun l => hI h (76 + 2 * l) 6) (fun l => hI h (76 + 2 * l) 1) (fun c => mkB h c l) p X l) (rb : RwB X l now) (hqp : q ≤ p) (hq : fstB L t q) (p0 : 0 ≤ hI h (76 + 2 * l) 6) (p1 : hI h (76 + 2 * l) 6 ≤ t) (p2 : hI h (76 + 2 * l) 6 ≤ 10079) (f0 : 0 ≤ hI h (76 + 2 * l) 1) (f1 : hI h (76 + 2 * l) 1 < 12) (h7 : 1 ≤ X 7 l ∧ X 7 l ≤ 1000)
    {x1 x2 x3 : Int32} (e1 : x1.toInt = l) (e2 : x2.toInt = i) (e3 : x3.toInt = t) : sat (qX4_rowOf x1 x2 x3 h) fun y => (fq [(13, 17)] [] h y.2 ∧ SWyC y.2 T) ∧ ((X 7 l = i + 1 ∧ X 8 (1000 * l + i) ≤ t ∧ y.1.toInt = rwV X l i) ∨ (¬ (X 7 l = i + 1 ∧ X 8 (1000 * l + i) ≤ t) ∧ y.1.toInt = rwV X l (min i (ldK L (fun c => mkB h c l) q).length))) := by
  have h9 := t_len2 ok hL
  obtain ⟨k1, k2⟩ := ltr_ref hs (show l < 120 by omega)
  have g1 := vp80 e1 (show l < 120 by omega)
  have ic : x1.toNatClampNeg = l := by
    rw [n_idx, e1]
    rfl
  have v16 : (ea_i h (76 + 2 * l) 16).toInt = X 7 l := (rn.1 l hl).1
  have v17 : (ea_i h (76 + 2 * l) 17).toInt = rwV X l (X 7 l - 1).toNat := (rn.1 l hl).2
  have K : sat (qX4_rowOf_37 x1 x2 x3 (some (76 + 2 * l)) h) fun y => (fq [(13, 17)] [] h y.2 ∧ SWyC y.2 T) ∧ y.1.toInt = rwV X l (min i (ldK L (fun c => mkB h c l) q).length) := by
    refine uqX4_rowOf_37 ?_
    unfold BX4_rowOf_37
    refine sat_bind (c_refresh ok hs hT wc) fun w2 hw2 => ?_
    obtain ⟨r1, r2, r3⟩ := hw2
    have wc2 : SWyC w2.2 T := Or.inr ⟨r2, r3⟩
    obtain ⟨L2, l1, l2, l3, l4⟩ := r3
    have hLL := t_uniq l1 hL
    subst hLL
    have f2 : fq [(13, 17)] [] h w2.2 := r1.up rfl
    have hs2 := ShC_core f2.1 hs
    have g2 : gCx T L2 G w2.2 := ⟨hs2, hT.kq (f2.kq rfl), gc.kq (f2.kq rfl), ⟨l2, l3⟩, l4⟩
    have lt2 : ∀ k, hI w2.2 (76 + 2 * l) k = hI h (76 + 2 * l) k := fun k => f2.C (76 + 2 * l) (inB_no (by omega)) rfl k
    have hmk : (fun c => mkB w2.2 c l) = fun c => mkB h c l := funext fun c => mkB_fq f2 rfl c l
    obtain ⟨-, k3⟩ := ltr_ref hs2 (show l < 120 by omega)
    have e6 : (ea_i w2.2 (76 + 2 * l) 6).toInt = hI h (76 + 2 * l) 6 := lt2 6
    have e01 : (ea_i w2.2 (76 + 2 * l) 1).toInt = hI h (76 + 2 * l) 1 := lt2 1
    obtain ⟨v, pv, qv⟩ := c_row e6 l_0 e01 p0 p2 (by decide) (by decide) f0 (by omega) w2.2
    obtain ⟨u, q0, pu, qu, hq0⟩ := c_firstBehind h9 hL.1 (mi := (hI h (76 + 2 * l) 6).toNat) (e6.trans (by omega)) g2.2.2.2.1
    refine sat_gd rfl (sat_gd k3 (sat_gd rfl (sat_gd k3 (sat_call pv (sat_gd rfl (sat_gd k3 (sat_call pu ?_)))))))
    obtain ⟨d1, d2, ⟨d3, d4, d5⟩, d6, -, -⟩ := ld
    have hq0q : q0 ≤ q := by
      apply Nat.not_lt.mp
      intro z
      have a := hq0.1
      have := (hq0.2 q (by omega)).mp z
      have := (hq.2 q (by omega)).mpr (by omega)
      omega
    have hnil : ldK L2 (fun c => mkB w2.2 c l) q0 = [] := by
      rw [hmk]
      unfold ldK
      rw [List.filter_eq_nil_iff]
      intro x hx hM
      obtain ⟨j, j1, j2, j3⟩ := take_at hx
      obtain ⟨j', b1, b2, b3, b4⟩ := d1 _ hM
      have hxx := kC_inj ((hL.2 _).mp (getD_mem b2)) ((hL.2 _).mp (j3 ▸ getD_mem j2 : x ∈ L2)) ok b3
      have := (hq0.2 j j2).mp j1
      rw [j3] at this
      rw [hxx] at b4
      have b4 : hI h (76 + 2 * l) 6 < (kMin x : Int) := b4
      omega
    have := c_walk ok hL g2 hG hm hl hqp hq (p := p) (i := i) (by rw [hmk]; exact d6) e1 e2 e3 (L2.length - q0) q0 v 0 u (by have := hq0.1; omega) hq0q qu (by rw [hnil]; rfl) (by
      rw [hnil, qv]
      show _ = X 8 (1000 * l) * 1024 + X 9 (1000 * l) * 128 + X 10 (1000 * l)
      rw [d3, d4, d5]) (by rw [hnil]; exact Nat.zero_le _)
    obtain ⟨y, y1, y2, y3⟩ := this
    refine ⟨y, y1, ?_, ?_⟩
    · rw [y2]
      exact ⟨f2, wc2⟩
    · rw [← hmk]
      exact y3
  have Kn : ¬ (X 7 l = i + 1 ∧ X 8 (1000 * l + i) ≤ t) → sat (qX4_rowOf_37 x1 x2 x3 (some (76 + 2 * l)) h) fun y => (fq [(13, 17)] [] h y.2 ∧ SWyC y.2 T) ∧ ((X 7 l = i + 1 ∧ X 8 (1000 * l + i) ≤ t ∧ y.1.toInt = rwV X l i) ∨ (¬ (X 7 l = i + 1 ∧ X 8 (1000 * l + i) ≤ t) ∧ y.1.toInt = rwV X l (min i (ldK L (fun c => mkB h c l) q).length))) := by
    intro hn
    obtain ⟨y, y1, y2, y3⟩ := K
    exact ⟨y, y1, y2, Or.inr ⟨hn, y3⟩⟩
  unfold qX4_rowOf
  refine uqX4_rowOf_0 ?_
  unfold BX4_rowOf_0
  rw [ic, k1]
  refine sat_gd g1 (sat_sub (sat_gd rfl (sat_gd k2 (sat_ite (fun z => ?_) fun z => ?_))))
  · have z2 : (i : Int) = X 7 l - 1 := by
      rw [n_eq, e2] at z
      have z : (i : Int) = (ea_i h (76 + 2 * l) 16 - (1 : Int32)).toInt := z
      rw [n_pred (by omega), v16] at z
      exact z
    have ei : (X 7 l - 1).toNat = i := by omega
    rw [ei] at v17
    obtain ⟨b1, b2, b3⟩ := rb i (by omega)
    obtain ⟨v, pv, qv⟩ := c_minOf v17 b2.1 b2.2 b3.1 b3.2 h
    refine sat_gd rfl (sat_gd k2 (sat_call pv (sat_ite (fun c => ?_) fun c => ?_)))
    · rw [n_lt, e3, qv] at c
      exact Kn fun w => by omega
    · rw [n_lt, e3, qv] at c
      exact sat_gd rfl (sat_gd k2 (sat_ret ⟨⟨fq_rfl _ _ _, wc⟩, Or.inl ⟨by omega, by omega, v17⟩⟩))
  · refine Kn fun w => z ?_
    rw [n_eq, e2]
    show (i : Int) = (ea_i h (76 + 2 * l) 16 - (1 : Int32)).toInt
    rw [n_pred (by omega), v16]
    omega
theorem call_lead {n : Nat} (hs : ShC h) (bs : SBas h n) (b : STb h T) (wc : SWyC h T) (sb : SBg h n T m X G) (sh : SBh h m X) (x1 x2 x3 : Int32) : tw (qX11_lead x1 x2 x3 h) (qX12_lead x1 x2 x3) fun h' => fq [(13, 17)] [] h h' ∧ SWyC h' T := by
  obtain ⟨b1, b2, b3, b4, b5, b6⟩ := bs
  obtain ⟨ok, cC, cM⟩ := b
  obtain ⟨hG, gc, gm, rc, rn, rm, df, L, p, hL, hp, hX, hld⟩ := sb
  have hm := rm.1.2
  have rm0 := rm.1.1
  have h9 := t_len2 ok hL
  rcases c_letterOf x1 hs rc.1.1 rc.1.2 with ⟨pl, np⟩ | ⟨l, e1, hl, pl⟩
  · unfold tw qX11_lead BX11_lead_0
    refine sat_call pl (sat_pos rfl (sat_ret ?_))
    unfold qX12_lead BX12_lead_0
    obtain ⟨v1, q1, s1⟩ := m_isLetterOf x1 (h := h) (by omega)
    refine sat_call q1 ?_
    rcases s1 with ⟨r1, s1⟩ | ⟨r1, s1⟩
    · exact sat_pos r1 (sat_ret ⟨rfl, fq_rfl _ _ _, wc⟩)
    refine sat_neg (by rw [r1]; exact i1_ne_0) ?_
    dsimp only
    exact absurd s1 (by omega)
  obtain ⟨k1, k2⟩ := ltr_ref hs (show l < 120 by omega)
  have g1 := vp80 e1 (show l < 120 by omega)
  have ic : x1.toNatClampNeg = l := by
    rw [n_idx, e1]
    rfl
  obtain ⟨ld, p0, p1⟩ := hld l hl
  obtain ⟨⟨f0, f1⟩, ht⟩ := sh l hl
  have rb : RwB X l (hI h 326 0) := row_b ok hL b2 hp ld (hX l hl) p0 p1 f0 f1 ht
  obtain ⟨-, -, -, -, ⟨w7, w8⟩, -⟩ := hX l hl
  have h7 : 1 ≤ X 7 l ∧ X 7 l ≤ 1000 := by
    have := hp.1
    dsimp only at w8
    split at w8 <;> omega
  have v16 : (ea_i h (76 + 2 * l) 16).toInt = X 7 l := (rn.1 l hl).1
  -- the reference, from any heap that keeps its cells
  have ref : ∀ (h1 : ea_H) (Q : Int32 × ea_H → Prop), hiq h h1 → (¬ (0 ≤ x2.toInt ∧ x2.toInt ≤ X 7 l - 1) → Q (-1, h1)) → (∀ i : Nat, x2.toInt = i → (i : Int) < X 7 l → ∀ v : Int32, v.toInt = (if x3.toInt = 0 then X 8 (1000 * l + i) else if x3.toInt = 1 then X 9 (1000 * l + i) else if x3.toInt = 2 then X 10 (1000 * l + i) else -1) → Q (v, h1)) → sat (qX12_lead x1 x2 x3 h1) Q := by
    intro h1 Q hq hno hyes
    have rm1 := RM0.hi hq rm
    have r0 := rm1.1.1
    have v7 : (ea_i h1 376 l).toInt = X 7 l := (rm1.2.1 l).2.2.2.2.2.1
    unfold qX12_lead BX12_lead_0
    obtain ⟨v1, q1, s1⟩ := m_isLetterOf x1 (h := h1) (by omega)
    refine sat_call q1 ?_
    rcases s1 with ⟨r1, s1⟩ | ⟨r1, s1⟩
    · exact sat_pos r1 (absurd s1 (by omega))
    refine sat_neg (by rw [r1]; exact i1_ne_0) ?_
    dsimp only
    rw [ic]
    refine sat_gd g1 ?_
    obtain ⟨v3, q3, s3⟩ := m_isIn x2 0 (ea_i h1 376 l - 1) h1
    rw [l_0, n_pred (by omega), v7] at s3
    refine sat_call q3 ?_
    rcases s3 with ⟨r3, s3⟩ | ⟨r3, s3⟩
    · exact sat_pos r3 (sat_ret (hno s3))
    refine sat_neg (by rw [r3]; exact i1_ne_0) (sat_let fun v4 hv4 => ?_)
    obtain ⟨i, ei⟩ : ∃ i : Nat, x2.toInt = i := ⟨x2.toInt.toNat, by omega⟩
    have e4 : v4.toInt = ((1000 * l + i : Nat) : Int) := by
      rw [hv4, n_add, n_mul, e1, ei, l_1000, n_bm (z := 1000 * (l : Int)) (by omega) (by omega), n_bm (by omega) (by omega)]
      omega
    have ic4 : v4.toNatClampNeg = 1000 * l + i := by
      rw [n_idx, e4]
      rfl
    have g4 := vp80 e4 (show 1000 * l + i < 120000 by omega)
    have hy := hyes i ei (by omega)
    obtain ⟨-, -, -, -, -, -, a8, a9, a10⟩ := rm1.2.1 (1000 * l + i)
    dsimp only
    rw [ic4]
    refine sat_ite (fun z => ?_) fun z0 => ?_
    · rw [n_eq, l_0] at z
      exact sat_gd g4 (sat_ret (hy _ (by rw [if_pos z]; exact a8)))
    rw [n_eq, l_0] at z0
    refine sat_ite (fun z => ?_) fun z1 => ?_
    · rw [n_eq, l_1] at z
      exact sat_gd g4 (sat_ret (hy _ (by rw [if_neg z0, if_pos z]; exact a9)))
    rw [n_eq, l_1] at z1
    refine sat_ite (fun z => ?_) fun z2 => ?_
    · rw [n_eq, l_2] at z
      exact sat_gd g4 (sat_ret (hy _ (by rw [if_neg z0, if_neg z1, if_pos z]; exact a10)))
    rw [n_eq, l_2] at z2
    exact sat_ret (hy _ (by rw [if_neg z0, if_neg z1, if_neg z2]; rfl))
  have no : ¬ (0 ≤ x2.toInt ∧ x2.toInt ≤ X 7 l - 1) → sat (some ((-1 : Int32), h)) fun y => sat (qX12_lead x1 x2 x3 y.2) fun z => y.1 = z.1 ∧ fq [(13, 17)] [] h z.2 ∧ SWyC z.2 T := fun hn => sat_ret (ref h _ (fun _ _ _ => rfl) (fun _ => ⟨rfl, fq_rfl _ _ _, wc⟩) fun i ei hi => absurd ⟨by omega, by omega⟩ hn)
  unfold tw qX11_lead BX11_lead_0
  refine sat_call pl (sat_neg (by simp) ?_)
  refine sat_ite (fun c1 => ?_) fun c1 => ?_
  · simp only [n_lt, n_le, n_eq, hI_eq, l_m1000, l_m100, l_m60, l_m19, l_m18, l_m17, l_m16, l_m15, l_m14, l_m13, l_m12, l_m11, l_m10, l_m8, l_m1, l_0, l_1, l_2, l_3, l_4, l_5, l_6, l_7, l_8, l_9, l_10, l_11, l_12, l_13, l_14, l_15, l_16, l_17, l_18, l_19, l_20, l_21, l_24, l_25, l_32, l_40, l_41, l_42, l_43, l_45, l_47, l_48, l_57, l_59, l_60, l_61, l_62, l_63, l_64, l_65, l_70, l_80, l_90, l_97, l_99, l_100, l_120, l_122, l_127, l_144, l_150, l_201, l_202, l_203, l_204, l_205, l_206, l_207, l_255, l_300, l_364, l_480, l_560, l_600, l_601, l_620, l_840, l_900, l_980, l_999, l_1000, l_1023, l_1024, l_1220, l_1439, l_1440, l_2240, l_2400, l_3000, l_3600, l_4095, l_4096, l_7320, l_9999, l_10079, l_10080, l_12000, l_99999, l_120000, l_1000000, l_2147483647] at c1
    exact no (by omega)
  simp only [n_lt, n_le, n_eq, hI_eq, l_m1000, l_m100, l_m60, l_m19, l_m18, l_m17, l_m16, l_m15, l_m14, l_m13, l_m12, l_m11, l_m10, l_m8, l_m1, l_0, l_1, l_2, l_3, l_4, l_5, l_6, l_7, l_8, l_9, l_10, l_11, l_12, l_13, l_14, l_15, l_16, l_17, l_18, l_19, l_20, l_21, l_24, l_25, l_32, l_40, l_41, l_42, l_43, l_45, l_47, l_48, l_57, l_59, l_60, l_61, l_62, l_63, l_64, l_65, l_70, l_80, l_90, l_97, l_99, l_100, l_120, l_122, l_127, l_144, l_150, l_201, l_202, l_203, l_204, l_205, l_206, l_207, l_255, l_300, l_364, l_480, l_560, l_600, l_601, l_620, l_840, l_900, l_980, l_999, l_1000, l_1023, l_1024, l_1220, l_1439, l_1440, l_2240, l_2400, l_3000, l_3600, l_4095, l_4096, l_7320, l_9999, l_10079, l_10080, l_12000, l_99999, l_120000, l_1000000, l_2147483647] at c1
  refine sat_gd rfl (sat_gd k2 (sat_ite (fun c2 => ?_) fun c2 => ?_))
  · rw [n_lt] at c2
    have c2 : x2.toInt < (ea_i h (76 + 2 * l) 16).toInt := c2
    rw [v16] at c2
    obtain ⟨i, ei⟩ : ∃ i : Nat, x2.toInt = i := ⟨x2.toInt.toNat, by omega⟩
    have e14 : (ea_i h 0 14).toInt = ((hI h 326 0).toNat : Int) := b1.trans (by omega)
    refine sat_bind (c_rowOf ok hL hs cC wc gc hG hm rn hl b3 ld rb (Nat.le_refl p) hp p0 (by omega) (by omega) f0 f1 h7 e1 ei e14) fun w4 hw4 => ?_
    obtain ⟨⟨f4, wc4⟩, hv⟩ := hw4
    have hrow : w4.1.toInt = rwV X l i := by
      rcases hv with ⟨-, -, hv⟩ | ⟨hn, hv⟩
      · exact hv
      · rw [hv, Nat.min_eq_left]
        have d2 := ld.2.1
        have := (rb i (by omega)).1.2
        split at d2 <;> omega
    obtain ⟨a8, a9, a10⟩ := rb i (by omega)
    unfold rwV at hrow
    have hq : hiq h w4.2 := f4.hiq rfl
    have fin : ∀ v : Int32, v.toInt = (if x3.toInt = 0 then X 8 (1000 * l + i) else if x3.toInt = 1 then X 9 (1000 * l + i) else if x3.toInt = 2 then X 10 (1000 * l + i) else -1) → sat (some (v, w4.2)) fun y => sat (qX12_lead x1 x2 x3 y.2) fun z => y.1 = z.1 ∧ fq [(13, 17)] [] h z.2 ∧ SWyC z.2 T := by
      intro v ev
      refine sat_ret (ref w4.2 _ hq (fun z => absurd ⟨by omega, by omega⟩ z) fun i2 ei2 hi2 u eu => ⟨n_eq.mpr (ev.trans ?_), f4, wc4⟩)
      rw [eu, show i2 = i by omega]
    refine sat_ite (fun z => ?_) fun z0 => ?_
    · obtain ⟨v, pv, qv⟩ := c_minOf hrow a9.1 a9.2 a10.1 a10.2 w4.2
      exact sat_call pv (fin v (by rw [if_pos z]; exact qv))
    refine sat_ite (fun z => ?_) fun z1 => ?_
    · obtain ⟨v, pv, qv⟩ := c_stOf hrow a8.1 a9.1 a9.2 a10.1 a10.2 w4.2
      exact sat_call pv (fin v (by rw [if_neg z0, if_pos z]; exact qv))
    refine sat_ite (fun z => ?_) fun z2 => ?_
    · obtain ⟨v, pv, qv⟩ := c_plOf hrow a8.1 a9.1 a9.2 a10.1 a10.2 w4.2
      exact sat_call pv (fin v (by rw [if_neg z0, if_neg z1, if_pos z]; exact qv))
    exact fin (-1) (by rw [if_neg z0, if_neg z1, if_neg z2]; rfl)
  · rw [n_lt] at c2
    have c2 : ¬ x2.toInt < (ea_i h (76 + 2 * l) 16).toInt := c2
    rw [v16] at c2
    exact no (by omega)
end LE
