/-! the reference's goings: one going, stop by stop -/
section GS
variable {T : Nat → Nat → Nat → Nat} {L : List Nat}
def gSt (T : Nat → Nat → Nat → Nat) (L : List Nat) (n e : Nat) (h : ea_H) : Prop := MTab h T ∧ mEv h L ∧ hI h 326 1 = n ∧ mRows (tW T) L n h (e + 1) ∧ mFirst (tW T) L h (e + 1)
def gRb (T : Nat → Nat → Nat → Nat) (L : List Nat) (e b : Nat) (h : ea_H) : Prop := ∀ b', b' < b → mRow1 (tW T) L h e b' (wV (tW T) L e b')
theorem mEv.fq {A : List (Nat × Nat)} {B : List ((Nat × Nat) × Nat × Nat)} {h h' : ea_H} {E : List Nat} (f : fq A B h h') (h0 : inB A 326 = false) (h00 : inP B 326 13 = false) (h1 : inB A 336 = false ∧ outP B 336 = true) (h2 : inB A 337 = false ∧ outP B 337 = true) (h3 : inB A 338 = false ∧ outP B 338 = true) (h4 : inB A 339 = false ∧ outP B 339 = true) (c : mEv h E) : mEv h' E := by
  refine ⟨(f.I 326 h0 13 h00).trans c.1, fun e he => ?_⟩
  obtain ⟨c1, c2, c3, c4⟩ := c.2 e he
  exact ⟨(f.C 336 h1.1 h1.2 _).trans c1, (f.C 337 h2.1 h2.2 _).trans c2, (f.C 338 h3.1 h3.2 _).trans c3, (f.C 339 h4.1 h4.2 _).trans c4⟩
theorem gSt_wi {n e : Nat} (hn : n ≤ 12) {h : ea_H} {a j : Nat} {x : Int32} (ha : inB [(341, 344)] a = true) (hj : j < 12 * (e + 1)) (s : gSt T L n e h) : gSt T L n e (ea_wi h a j x) := by
  have f : fq [(341, 344)] [] h (ea_wi h a j x) := fq_wi ha
  obtain ⟨s1, s2, s3, s4, s5⟩ := s
  refine ⟨s1.fq f rfl rfl ⟨rfl, rfl⟩ ⟨rfl, rfl⟩ ⟨rfl, rfl⟩ ⟨rfl, rfl⟩ ⟨rfl, rfl⟩, s2.fq f rfl rfl ⟨rfl, rfl⟩ ⟨rfl, rfl⟩ ⟨rfl, rfl⟩ ⟨rfl, rfl⟩, (f.I 326 rfl 1 rfl).trans s3, mRows_cg hn (fun q hq => ?_) (fun q _ => f.C 345 rfl rfl q) s4, fun a ha => ?_⟩
  · have : q ≠ j := by omega
    exact ⟨hI_nk this, hI_nk this, hI_nk this, hI_nk this⟩
  · rw [f.C 346 rfl rfl]
    exact s5 a ha
theorem gRb_wi {e b : Nat} {h : ea_H} {a j : Nat} {x : Int32} (hj : 12 * e + b ≤ j) (s : gRb T L e b h) : gRb T L e b (ea_wi h a j x) := by
  intro b' hb
  have : 12 * e + b' ≠ j := by omega
  unfold mRow1
  rw [hI_nk this, hI_nk this, hI_nk this]
  exact s b' hb
theorem m_go218 {n e b t d i A m k : Nat} (hn : n ≤ 12) (hb : b < 12) (he : e < 1000) {o : Nat} (ho : o = (m * 256 + k) * 8192 + (t * 512 + d * 64 + i)) (ht : t < 10) (hd : d < 7) (hi : i < 8) (hm : m ≤ 10079) (hk : k ≤ 71)
    (hA : A = NOW ∨ ∃ m k i', A = (m * 256 + k) * 8192 + (t * 512 + d * 64 + i') ∧ m ≤ 10079 ∧ 1 ≤ k ∧ k ≤ 71 ∧ i' < i) {P : Unit × ea_H → Prop}
    {x1 x2 x3 x4 x5 x6 x11 x12 : Int32} (e5 : x5.toInt = ((12 * e + b : Nat) : Int)) (e6 : x6.toInt = i) (e11 : x11.toInt = m) (e12 : x12.toInt = k) {h : ea_H} (s : gSt T L n e h) (r : gRb T L e b h) (acc : mRow1 (tW T) L h e b A)
    (K : ∀ h', gSt T L n e h' → gRb T L e b h' → mRow1 (tW T) L h' e b (min A o) → fq [(341, 343)] [] h h' → sat (qX12_goings_60 x1 x2 x3 x4 x5 (x6 + 1) h') P) : sat (qX12_goings_218 x1 x2 x3 x4 x5 x6 x11 x12 h) P := by
  have hNOW := NOW_eq
  have g5 := vp80 e5 (show 12 * e + b < 12000 by omega)
  have ic : x5.toNatClampNeg = 12 * e + b := by
    rw [n_idx, e5]
    rfl
  have write : o ≤ A → sat (qX12_goings_259 x1 x2 x3 x4 x5 x6 x11 x12 h) P := by
    intro hoA
    refine uqX12_goings_259 ?_
    unfold BX12_goings_259
    refine sat_gd g5 (sat_let fun H1 q1 => sat_gd g5 (sat_let fun H2 q2 => sat_gd g5 (sat_let fun H3 q3 => ?_)))
    rw [ic] at q1 q2 q3
    have f1 : fq [(341, 343)] [] h H1 := q1 ▸ fq_wi rfl
    have f2 : fq [(341, 343)] [] H1 H2 := q2 ▸ fq_wi rfl
    have f3 : fq [(341, 343)] [] H2 H3 := q3 ▸ fq_wi rfl
    refine K H3 ?_ ?_ ?_ (f1.tr (f2.tr f3))
    · rw [q3, q2, q1]
      exact gSt_wi hn rfl (by omega) (gSt_wi hn rfl (by omega) (gSt_wi hn rfl (by omega) s))
    · rw [q3, q2, q1]
      exact gRb_wi (Nat.le_refl _) (gRb_wi (Nat.le_refl _) (gRb_wi (Nat.le_refl _) r))
    · rw [Nat.min_eq_right hoA]
      unfold mRow1
      rw [q3, hI_at, hI_ne (by decide), hI_ne (by decide), q2, hI_ne (by decide), hI_at, q1, hI_at, e6, e11, e12]
      refine Or.inr ⟨by omega, by omega, by omega, by omega⟩
  have skip : A ≤ o → sat (qX12_goings_60 x1 x2 x3 x4 x5 (x6 + 1) h) P := by
    intro hAo
    refine K h s r ?_ (fq_rfl _ _ _)
    rw [Nat.min_eq_left hAo]
    exact acc
  refine uqX12_goings_218 ?_
  unfold BX12_goings_218
  rw [ic]
  rcases acc with ⟨a1, a2⟩ | ⟨a1, a2, a3, a4⟩
  · refine sat_gd g5 (sat_neg ?_ (sat_gd g5 (sat_neg ?_ (write ?_))))
    · rw [n_lt, hI_eq, a2, e11]
      omega
    · rw [n_eq, hI_eq, a2, e11]
      omega
    · omega
  · rcases hA with q | ⟨m2, k2, i2, p1, p2, p3, p4, p5⟩
    · exact absurd q a1
    have b1 : A / 2097152 = m2 := by omega
    have b2 : A / 8192 % 256 = k2 := by omega
    rw [b1] at a2
    rw [b2] at a3
    refine sat_gd g5 ?_
    by_cases c1 : m2 < m
    · exact sat_pos (by rw [n_lt, hI_eq, a2, e11]; omega) (skip (by omega))
    · refine sat_neg (by rw [n_lt, hI_eq, a2, e11]; omega) (sat_gd g5 ?_)
      by_cases c2 : m = m2
      · refine sat_pos (by rw [n_eq, hI_eq, a2, e11]; omega) (sat_gd g5 ?_)
        by_cases c3 : k < k2
        · exact sat_pos (by rw [n_lt, hI_eq, a3, e12]; omega) (write (by omega))
        · exact sat_neg (by rw [n_lt, hI_eq, a3, e12]; omega) (skip (by omega))
      · exact sat_neg (by rw [n_eq, hI_eq, a2, e11]; omega) (write (by omega))
theorem m_go60 (ok : tOk T) (hL : tList T L) {n e b : Nat} (hn : n ≤ 12) (hb : b < n) (he : e < L.length) (hg : kGo (L.getD e 0) = 1) {P : Unit × ea_H → Prop} {h0 : ea_H}
    {x1 x2 x3 x4 x5 : Int32} (e2 : x2.toInt = ((7 * kT (L.getD e 0) + kD (L.getD e 0) : Nat) : Int)) (e4 : x4.toInt = b) (e5 : x5.toInt = ((12 * e + b : Nat) : Int))
    (K : ∀ h', gSt T L n e h' → gRb T L e b h' → mRow1 (tW T) L h' e b (oMin T L (kT (L.getD e 0)) (kD (L.getD e 0)) b (kI (L.getD e 0) + 1) (tS T (kT (L.getD e 0)) - (kI (L.getD e 0) + 1))) → fq [(341, 343)] [] h0 h' → sat (qX12_goings_22 x1 x2 x3 (x4 + 1) h') P) :
    ∀ (k j : Nat) (h : ea_H) (x6 : Int32), kI (L.getD e 0) + 1 + j + k = tS T (kT (L.getD e 0)) → x6.toInt = ((kI (L.getD e 0) + 1 + j : Nat) : Int) → gSt T L n e h → gRb T L e b h → mRow1 (tW T) L h e b (oMin T L (kT (L.getD e 0)) (kD (L.getD e 0)) b (kI (L.getD e 0) + 1) j) → fq [(341, 343)] [] h0 h → sat (qX12_goings_60 x1 x2 x3 x4 x5 x6 h) P := by
  have hzk := (hL.2 _).mp (getD_mem he)
  have h9 := t_len2 ok hL
  have hw := t_wL ok hL
  have hnT := ok.1
  have hz1 := hzk.1
  have hz2 := hzk.2.1
  have hs := ok.2.1 (kT (L.getD e 0)) (by omega)
  have hmz := t_gm hL _ (getD_mem he) hg
  have hle : ∀ j, j < e + 1 → kMin (L.getD j 0) ≤ kMin (L.getD e 0) := fun j hj => by
    by_cases q : j = e
    · rw [q]
      exact Nat.le_refl _
    · exact k_min_le (Nat.le_of_lt (getD_lt hL.1 (by omega) he))
  generalize hz : L.getD e 0 = z at *
  have ht : kT z < 10 := by omega
  intro k
  induction k with
  | zero =>
    intro j h x6 hk e6 s r acc f
    have j0 : (x2 / (7 : Int32)).toInt = kT z := by
      rw [n_div7 (by omega), e2]
      omega
    refine uqX12_goings_60 ?_
    unfold BX12_goings_60
    refine sat_gd (vp80 j0 ht) (sat_pos ?_ (K h s r ?_ f))
    · rw [n_le, hI_eq, n_idx, j0, e6]
      have := s.1.2.1 (kT z) ht
      show hI h 328 (kT z) ≤ _
      rw [this]
      omega
    · rw [show tS T (kT z) - (kI z + 1) = j by omega]
      exact acc
  | succ k ih =>
    intro j h x6 hk e6 s r acc f
    obtain ⟨s1, s2, s3, s4, s5⟩ := s
    have hi : kI z + 1 + j < tS T (kT z) := by omega
    have hi8 : kI z + 1 + j < 8 := by omega
    have j0 : (x2 / (7 : Int32)).toInt = kT z := by
      rw [n_div7 (by omega), e2]
      omega
    have e61 : (x6 + 1).toInt = ((kI z + 1 + (j + 1) : Nat) : Int) := by
      rw [n_add, e6, l_1, n_bm (by omega) (by omega)]
      omega
    have hA := oA ok hL (kT z) (kD z) b (kI z + 1) j
    have hNOW := NOW_eq
    have hcode := o_code ok hL (kT z) (kD z) b (kI z + 1 + j)
    -- on with no better option
    have on : oI T L (kT z) (kD z) b (kI z + 1 + j) = NOW → sat (qX12_goings_60 x1 x2 x3 x4 x5 (x6 + 1) h) P := by
      intro hq
      refine ih (j + 1) h (x6 + 1) (by omega) e61 ⟨s1, s2, s3, s4, s5⟩ r ?_ f
      have : oMin T L (kT z) (kD z) b (kI z + 1) (j + 1) = oMin T L (kT z) (kD z) b (kI z + 1) j := by
        show min _ _ = _
        rw [hq]
        apply Nat.min_eq_left
        rcases hA with q | ⟨m, k, i', q1, q2, q3, q4, q5⟩ <;> omega
      rw [this]
      exact acc
    have cmp : ∀ (m k : Nat) (x11 x12 : Int32), oI T L (kT z) (kD z) b (kI z + 1 + j) = (m * 256 + k) * 8192 + (kT z * 512 + kD z * 64 + (kI z + 1 + j)) → m ≤ 10079 → k ≤ 71 → x11.toInt = m → x12.toInt = k → sat (qX12_goings_218 x1 x2 x3 x4 x5 x6 x11 x12 h) P := by
      intro m k x11 x12 q1 q2 q3 q4 q5
      refine m_go218 hn (by omega) (by omega) q1 ht hz2 hi8 q2 q3 hA e5 e6 q4 q5 ⟨s1, s2, s3, s4, s5⟩ r acc fun h' p1 p2 p3 p4 => ?_
      exact ih (j + 1) h' (x6 + 1) (by omega) e61 p1 p2 p3 (f.tr p4)
    obtain ⟨v7, p7, r7⟩ := m_comesAt e2 e6 s1 ok ht hz2 hi
    obtain ⟨v8, p8, r8⟩ := m_townOf e2 e6 s1 ht hz2 hi8
    have hc12 := (ok.2.2.2.1 (kT z) (kI z + 1 + j) ht hi).1
    refine uqX12_goings_60 ?_
    unfold BX12_goings_60
    refine sat_gd (vp80 j0 ht) (sat_neg ?_ (sat_call p7 ?_))
    · rw [n_le, hI_eq, n_idx, j0, e6]
      have := s1.2.1 (kT z) ht
      show ¬ hI h 328 (kT z) ≤ _
      rw [this]
      omega
    by_cases hm : tCm T (kT z) (kD z) (kI z + 1 + j) ≤ 10079
    case neg =>
      refine sat_neg (by rw [n_le, r7, l_10079]; omega) (K h ⟨s1, s2, s3, s4, s5⟩ r ?_ f)
      have h1 := oMin_stop ok hL (b := b) (i0 := kI z + 1) (j := j) ht hz2 (by omega) (k + 1) fun q q1 q2 => by
        unfold oI
        rw [if_neg]
        have := t_cmono ok (d := kD z) (i := kI z + 1 + j) (i2 := kI z + 1 + q) ht (by omega) (by omega)
        omega
      rw [show tS T (kT z) - (kI z + 1) = j + (k + 1) by omega, h1]
      exact acc
    refine sat_pos (by rw [n_le, r7, l_10079]; omega) (sat_call p8 ?_)
    by_cases hc : b = tW T (kT z) (kI z + 1 + j)
    · have x84 : v8 = x4 := n_eq.mpr (by rw [r8, e4, hc])
      refine sat_pos x84 ?_
      refine uqX12_goings_122 ?_
      unfold BX12_goings_122
      refine sat_pos rfl ?_
      refine uqX12_goings_147 ?_
      unfold BX12_goings_147
      refine sat_pos x84 ?_
      refine uqX12_goings_165 ?_
      unfold BX12_goings_165
      refine sat_pos x84 ?_
      refine uqX12_goings_190 ?_
      unfold BX12_goings_190
      refine sat_pos x84 (cmp _ 1 v7 1 ?_ hm (by omega) r7 rfl)
      unfold oI
      rw [if_pos hm, if_pos hc]
      omega
    · have x84 : ¬ v8 = x4 := fun q => hc (by have := n_eq.mp q; rw [r8, e4] at this; omega)
      have hbig : ∀ j', j' < e + 1 → isG (tW T) L (tW T (kT z) (kI z + 1 + j)) j' → kMin (L.getD j' 0) < tCm T (kT z) (kD z) (kI z + 1 + j) := by
        intro j' hj' _
        have h1 := hle j' hj'
        have h2 := t_lt ok ht j (kI z) (by omega)
        rw [show kI z + j + 1 = kI z + 1 + j by omega] at h2
        unfold tGm at hmz
        unfold tCm
        omega
      obtain ⟨v9, p9, r9, b9⟩ := m_going (by omega) s2 s4 s5 hc12 r8 r7 hbig
      refine sat_neg x84 (sat_call p9 ?_)
      refine uqX12_goings_122 ?_
      unfold BX12_goings_122
      have hoI : oI T L (kT z) (kD z) b (kI z + 1 + j) = if (wRS (tW T) (wFrom L (tCm T (kT z) (kD z) (kI z + 1 + j)))).2 (tW T (kT z) (kI z + 1 + j)) b = NOW then NOW else ((wRS (tW T) (wFrom L (tCm T (kT z) (kD z) (kI z + 1 + j)))).2 (tW T (kT z) (kI z + 1 + j)) b / 8192 + 1) * 8192 + (kT z * 512 + kD z * 64 + (kI z + 1 + j)) := by
        unfold oI
        rw [if_pos hm, if_neg hc]
      have none : oI T L (kT z) (kD z) b (kI z + 1 + j) = NOW → sat (qX12_goings_147 x1 x2 x3 x4 x5 x6 v7 v8 (-1) h) P := by
        intro hq
        refine uqX12_goings_147 ?_
        unfold BX12_goings_147
        exact sat_neg x84 (sat_pos rfl (on hq))
      rcases r9 with ⟨q1, q2⟩ | ⟨g, q1, q2, q3, q4⟩
      · refine sat_pos (n_eq.mpr (by rw [q1]; rfl)) (none ?_)
        rw [hoI, gFr_none hw b q2, if_pos rfl]
      · have hgl := q2.1
        have v9n : ¬ v9 = -1 := fun q => by
          rw [q] at q1
          have : (-1 : Int) = (g : Int) := q1
          omega
        have hge : e + 1 ≤ g := by omega
        have w0 := gFr_some hw b q2 q3 q4
        have jj : ((12 : Int32) * v9 + x4).toInt = 12 * (g : Int) + b := by simp (disch := omega) only [n_add, n_sub, n_mul, n_neg, n_bm, n_idx, n_if, hI_eq, l_m1000, l_m100, l_m60, l_m19, l_m18, l_m17, l_m16, l_m15, l_m14, l_m13, l_m12, l_m11, l_m10, l_m8, l_m1, l_0, l_1, l_2, l_3, l_4, l_5, l_6, l_7, l_8, l_9, l_10, l_11, l_12, l_13, l_14, l_15, l_16, l_17, l_18, l_19, l_20, l_21, l_24, l_25, l_32, l_40, l_41, l_42, l_43, l_45, l_47, l_48, l_57, l_59, l_60, l_61, l_62, l_63, l_64, l_65, l_70, l_80, l_90, l_97, l_99, l_100, l_120, l_122, l_127, l_144, l_150, l_201, l_202, l_203, l_204, l_205, l_206, l_207, l_255, l_300, l_364, l_480, l_560, l_600, l_601, l_620, l_840, l_900, l_980, l_999, l_1000, l_1023, l_1024, l_1220, l_1439, l_1440, l_2240, l_2400, l_3000, l_3600, l_4095, l_4096, l_7320, l_9999, l_10079, l_10080, l_12000, l_99999, l_120000, l_1000000, l_2147483647, q1, e4]
        have j1 : ((12 : Int32) * v9 + x4).toInt = ((12 * g + b : Nat) : Int) := by
          rw [jj]
          omega
        have ic : ((12 : Int32) * v9 + x4).toNatClampNeg = 12 * g + b := by
          rw [n_idx, j1]
          rfl
        refine sat_neg v9n (sat_gd (vp80 j1 (by omega)) ?_)
        rw [ic]
        rcases ((s4 g hge _ q2).2 b hb).2 with ⟨z1, z2⟩ | ⟨g2, z1, z2, z3, z4, z5⟩
        · have : ea_i h 344 (12 * g + b) = -1 := n_eq.mpr (by rw [hI_eq, z1]; rfl)
          rw [this]
          refine none ?_
          rw [hoI, w0, if_pos z2]
        · have z1 : (ea_i h 344 (12 * g + b)).toInt = g2 := z1
          generalize ea_i h 344 (12 * g + b) = v10 at z1
          have hg2l := z3.1
          have v10n : ¬ v10 = -1 := fun q => by
            rw [q] at z1
            have : (-1 : Int) = (g2 : Int) := z1
            omega
          have kk : ((12 : Int32) * v10 + x4).toInt = 12 * (g2 : Int) + b := by simp (disch := omega) only [n_add, n_sub, n_mul, n_neg, n_bm, n_idx, n_if, hI_eq, l_m1000, l_m100, l_m60, l_m19, l_m18, l_m17, l_m16, l_m15, l_m14, l_m13, l_m12, l_m11, l_m10, l_m8, l_m1, l_0, l_1, l_2, l_3, l_4, l_5, l_6, l_7, l_8, l_9, l_10, l_11, l_12, l_13, l_14, l_15, l_16, l_17, l_18, l_19, l_20, l_21, l_24, l_25, l_32, l_40, l_41, l_42, l_43, l_45, l_47, l_48, l_57, l_59, l_60, l_61, l_62, l_63, l_64, l_65, l_70, l_80, l_90, l_97, l_99, l_100, l_120, l_122, l_127, l_144, l_150, l_201, l_202, l_203, l_204, l_205, l_206, l_207, l_255, l_300, l_364, l_480, l_560, l_600, l_601, l_620, l_840, l_900, l_980, l_999, l_1000, l_1023, l_1024, l_1220, l_1439, l_1440, l_2240, l_2400, l_3000, l_3600, l_4095, l_4096, l_7320, l_9999, l_10079, l_10080, l_12000, l_99999, l_120000, l_1000000, l_2147483647, z1, e4]
          have k1 : ((12 : Int32) * v10 + x4).toInt = ((12 * g2 + b : Nat) : Int) := by
            rw [kk]
            omega
          have ic2 : ((12 : Int32) * v10 + x4).toNatClampNeg = 12 * g2 + b := by
            rw [n_idx, k1]
            rfl
          have g12 := vp80 k1 (show 12 * g2 + b < 12000 by omega)
          have row := ((s4 g2 (by omega) _ z3).2 b hb).1
          rw [← w0] at z4 z5
          rcases row with ⟨w1, w2⟩ | ⟨w1, w2, w3, w4⟩
          · rw [w1] at z4
            exact absurd z4.symm z5
          rw [if_neg z5] at hoI
          rw [z4] at w2 w3
          obtain ⟨m, k', c1, c2, c3, c4⟩ : ∃ m k, oI T L (kT z) (kD z) b (kI z + 1 + j) = (m * 256 + k) * 8192 + (kT z * 512 + kD z * 64 + (kI z + 1 + j)) ∧ m ≤ 10079 ∧ 1 ≤ k ∧ k ≤ 71 := by
            rcases hcode with q | q
            · exfalso
              have h7 : (wRS (tW T) (wFrom L (tCm T (kT z) (kD z) (kI z + 1 + j)))).2 (tW T (kT z) (kI z + 1 + j)) b < 30000000000 := NOW_S (wFrom_wL hw _) (Nat.le_trans (wFrom_len _ _) (by omega)) _ _ z5
              omega
            · exact q
          generalize (wRS (tW T) (wFrom L (tCm T (kT z) (kD z) (kI z + 1 + j)))).2 (tW T (kT z) (kI z + 1 + j)) b = S at *
          have d1 : S / 2097152 = m := by omega
          have d2 : S / 8192 % 256 + 1 = k' := by omega
          refine uqX12_goings_147 ?_
          unfold BX12_goings_147
          refine sat_neg x84 (sat_neg v10n ?_)
          refine uqX12_goings_165 ?_
          unfold BX12_goings_165
          refine sat_neg x84 (sat_gd g12 ?_)
          refine uqX12_goings_190 ?_
          unfold BX12_goings_190
          refine sat_neg x84 (sat_gd g12 ?_)
          rw [ic2]
          refine cmp m k' _ _ c1 c2 c4 ?_ ?_
          · rw [hI_eq, w2, d1]
          · rw [n_add, hI_eq, w3, l_1, n_bm (by omega) (by omega)]
            omega
end GS
