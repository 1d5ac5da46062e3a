/-! the reference's goings: one going whole -/
section GE
variable {T : Nat → Nat → Nat → Nat} {L : List Nat}
def gLk (T : Nat → Nat → Nat → Nat) (L : List Nat) (n e : Nat) (h : ea_H) : Prop := MTab h T ∧ mEv h L ∧ hI h 326 1 = n ∧ mRows (tW T) L n h (e + 1) ∧ mFirst (tW T) L h e ∧ nxG (tW T) L (kA (tW T) (L.getD e 0)) (e + 1) (hI h 345 e) ∧ gRb T L e n h
def gDn (T : Nat → Nat → Nat → Nat) (L : List Nat) (e b : Nat) (h : ea_H) : Prop := ∀ b', b' < b → mBest (tW T) L (kA (tW T) (L.getD e 0)) b' e ((wRS (tW T) (L.drop e)).2 (kA (tW T) (L.getD e 0)) b') (hI h 344 (12 * e + b'))
theorem gLk_wi {n e b : Nat} (hn : n ≤ 12) (hb : b < 12) {h : ea_H} {x : Int32} (s : gLk T L n e h) : gLk T L n e (ea_wi h 344 (12 * e + b) x) := by
  have f : fq [(344, 344)] [] h (ea_wi h 344 (12 * e + b) x) := fq_wi rfl
  obtain ⟨s1, s2, s3, s4, s5, s6, s7⟩ := s
  refine ⟨s1.fq f rfl rfl ⟨rfl, rfl⟩ ⟨rfl, rfl⟩ ⟨rfl, rfl⟩ ⟨rfl, rfl⟩ ⟨rfl, rfl⟩, s2.fq f rfl rfl ⟨rfl, rfl⟩ ⟨rfl, rfl⟩ ⟨rfl, rfl⟩ ⟨rfl, rfl⟩, (f.I 326 rfl 1 rfl).trans s3, mRows_cg hn (fun q hq => ?_) (fun q _ => f.C 345 rfl rfl q) s4, fun a ha => ?_, ?_, fun b' hb' => ?_⟩
  · have : q ≠ 12 * e + b := by omega
    exact ⟨hI_nk this, hI_nk this, hI_nk this, hI_nk this⟩
  · rw [f.C 346 rfl rfl]
    exact s5 a ha
  · rw [f.C 345 rfl rfl]
    exact s6
  · unfold mRow1
    rw [f.C 341 rfl rfl, f.C 342 rfl rfl, f.C 343 rfl rfl]
    exact s7 b' hb'
theorem gDn_wi {e b : Nat} {h : ea_H} {v : Int32} (d : gDn T L e b h) (q : mBest (tW T) L (kA (tW T) (L.getD e 0)) b e ((wRS (tW T) (L.drop e)).2 (kA (tW T) (L.getD e 0)) b) v.toInt) : gDn T L e (b + 1) (ea_wi h 344 (12 * e + b) v) := by
  intro b' hb
  by_cases z : b' = b
  · rw [z, hI_at]
    exact q
  · rw [hI_nk (by omega)]
    exact d b' (by omega)
theorem m_go320 (ok : tOk T) (hL : tList T L) {n e : Nat} (hn : n ≤ 12) (he : e < L.length) (hg : kGo (L.getD e 0) = 1) {x1 : Int32} (e1 : x1.toInt = e) {h0 : ea_H} :
    ∀ (k b : Nat) (h : ea_H) (x4 : Int32), b + k = n → x4.toInt = b → gLk T L n e h → gDn T L e b h → fq [(341, 346)] [] h0 h → sat (qX12_goings_320 x1 x4 h) fun y => fq [(341, 346)] [] h0 y.2 ∧ MTab y.2 T ∧ mEv y.2 L ∧ hI y.2 326 1 = n ∧ mRows (tW T) L n y.2 e ∧ mFirst (tW T) L y.2 e := by
  have h9 := t_len2 ok hL
  have hw := t_wL ok hL
  have hG : isG (tW T) L (kA (tW T) (L.getD e 0)) e := ⟨he, hg, rfl⟩
  intro k
  induction k with
  | zero =>
    intro b h x4 hk e4 s d f
    obtain ⟨s1, s2, s3, s4, s5, s6, s7⟩ := s
    refine uqX12_goings_320 ?_
    unfold BX12_goings_320
    refine sat_pos (by rw [n_le, hI_eq, s3, e4]; omega) (sat_ret ⟨f, s1, s2, s3, fun q hq a ha => ?_, s5⟩)
    by_cases z : q = e
    · rw [z] at ha ⊢
      have za : a = kA (tW T) (L.getD e 0) := ha.2.2.symm
      rw [za]
      refine ⟨s6, fun b' hb => ⟨s7 b' hb, d b' (by omega)⟩⟩
    · exact s4 q (by omega) a ha
  | succ k ih =>
    intro b h x4 hk e4 s d f
    have hb : b < n := by omega
    have e41 : (x4 + 1).toInt = ((b + 1 : Nat) : Int) := by
      rw [n_add, e4, l_1, n_bm (by omega) (by omega)]
      omega
    have ic1 : x1.toNatClampNeg = e := by
      rw [n_idx, e1]
      rfl
    have j0 : ((12 : Int32) * x1 + x4).toInt = 12 * (e : Int) + b := by simp (disch := omega) only [n_add, n_sub, n_mul, n_neg, n_bm, n_idx, n_if, hI_eq, l_m1000, l_m100, l_m60, l_m19, l_m18, l_m17, l_m16, l_m15, l_m14, l_m13, l_m12, l_m11, l_m10, l_m8, l_m1, l_0, l_1, l_2, l_3, l_4, l_5, l_6, l_7, l_8, l_9, l_10, l_11, l_12, l_13, l_14, l_15, l_16, l_17, l_18, l_19, l_20, l_21, l_24, l_25, l_32, l_40, l_41, l_42, l_43, l_45, l_47, l_48, l_57, l_59, l_60, l_61, l_62, l_63, l_64, l_65, l_70, l_80, l_90, l_97, l_99, l_100, l_120, l_122, l_127, l_144, l_150, l_201, l_202, l_203, l_204, l_205, l_206, l_207, l_255, l_300, l_364, l_480, l_560, l_600, l_601, l_620, l_840, l_900, l_980, l_999, l_1000, l_1023, l_1024, l_1220, l_1439, l_1440, l_2240, l_2400, l_3000, l_3600, l_4095, l_4096, l_7320, l_9999, l_10079, l_10080, l_12000, l_99999, l_120000, l_1000000, l_2147483647, e1, e4]
    have j1 : ((12 : Int32) * x1 + x4).toInt = ((12 * e + b : Nat) : Int) := by
      rw [j0]
      omega
    have ic : ((12 : Int32) * x1 + x4).toNatClampNeg = 12 * e + b := by
      rw [n_idx, j1]
      rfl
    have g1 := vp80 j1 (show 12 * e + b < 12000 by omega)
    have hold : (wRS (tW T) (L.drop e)).2 (kA (tW T) (L.getD e 0)) b = min ((wRS (tW T) (L.drop (e + 1))).2 (kA (tW T) (L.getD e 0)) b) (wV (tW T) L e b) := by
      rw [drop_cons he, wS_go hg]
      rfl
    have put : ∀ v : Int32, mBest (tW T) L (kA (tW T) (L.getD e 0)) b e ((wRS (tW T) (L.drop e)).2 (kA (tW T) (L.getD e 0)) b) v.toInt → sat (qX12_goings_320 x1 (x4 + 1) (ea_wi h 344 (12 * e + b) v)) fun y => fq [(341, 346)] [] h0 y.2 ∧ MTab y.2 T ∧ mEv y.2 L ∧ hI y.2 326 1 = n ∧ mRows (tW T) L n y.2 e ∧ mFirst (tW T) L y.2 e := fun v hv =>
      ih (b + 1) _ (x4 + 1) (by omega) e41 (gLk_wi hn (by omega) s) (gDn_wi d hv) (f.tr (fq_wi rfl))
    rw [hold] at put
    obtain ⟨s1, s2, s3, s4, s5, s6, s7⟩ := s
    have hle : (wRS (tW T) (L.drop (e + 1))).2 (kA (tW T) (L.getD e 0)) b ≤ NOW := by
      have hL2 : L = (L.take e ++ [L.getD e 0]) ++ L.drop (e + 1) := by
        rw [List.append_assoc]
        exact take_cons he
      refine wS_le_NOW (wL_tail (P := L.take e ++ [L.getD e 0]) (by rw [← hL2]; exact hw)) ?_ _ _
      rw [List.length_drop]
      omega
    have row := s7 b hb
    generalize hold2 : (wRS (tW T) (L.drop (e + 1))).2 (kA (tW T) (L.getD e 0)) b = old at *
    have m360 : ∀ sx : Int32, mBest (tW T) L (kA (tW T) (L.getD e 0)) b (e + 1) old sx.toInt → sat (qX12_goings_360 x1 x4 sx h) fun y => fq [(341, 346)] [] h0 y.2 ∧ MTab y.2 T ∧ mEv y.2 L ∧ hI y.2 326 1 = n ∧ mRows (tW T) L n y.2 e ∧ mFirst (tW T) L y.2 e := by
      intro sx hsx
      have mine : wV (tW T) L e b ≤ old → wV (tW T) L e b ≠ NOW → sat (qX12_goings_320 x1 (x4 + 1) (ea_wi h 344 (12 * e + b) x1)) fun y => fq [(341, 346)] [] h0 y.2 ∧ MTab y.2 T ∧ mEv y.2 L ∧ hI y.2 326 1 = n ∧ mRows (tW T) L n y.2 e ∧ mFirst (tW T) L y.2 e := by
        intro q1 q2
        refine put x1 ?_
        rw [Nat.min_eq_right q1]
        exact Or.inr ⟨e, e1, Nat.le_refl _, hG, rfl, q2⟩
      have its : old ≤ wV (tW T) L e b → sat (qX12_goings_320 x1 (x4 + 1) (ea_wi h 344 (12 * e + b) sx)) fun y => fq [(341, 346)] [] h0 y.2 ∧ MTab y.2 T ∧ mEv y.2 L ∧ hI y.2 326 1 = n ∧ mRows (tW T) L n y.2 e ∧ mFirst (tW T) L y.2 e := by
        intro q1
        refine put sx ?_
        rw [Nat.min_eq_left q1]
        rcases hsx with z | ⟨g, z1, z2, z3, z4, z5⟩
        · exact Or.inl z
        · exact Or.inr ⟨g, z1, by omega, z3, z4, z5⟩
      refine uqX12_goings_360 ?_
      unfold BX12_goings_360
      rw [ic]
      refine sat_gd g1 ?_
      by_cases c1 : wV (tW T) L e b = NOW
      · have : ea_i h 341 (12 * e + b) = 1000000 := by
          rcases row with ⟨z1, z2⟩ | ⟨z1, z2⟩
          · exact n_eq.mpr (by rw [hI_eq, z2]; rfl)
          · exact absurd c1 z1
        exact sat_pos this (sat_gd g1 (sat_sub (its (by rw [c1]; exact hle))))
      · obtain ⟨m, k', l, w1, w2, w3, w4, w5, w6, w7, w8⟩ := wV_code hw (by omega) hG c1
        have hNOW := NOW_eq
        have : ¬ ea_i h 341 (12 * e + b) = 1000000 := by
          rcases row with ⟨z1, z2⟩ | ⟨z1, z2, z3, z4⟩
          · exact absurd z1 c1
          · rw [n_eq, hI_eq, z2, l_1000000]
            omega
        refine sat_neg this ?_
        rcases hsx with ⟨z1, z2⟩ | ⟨g, z1, z2, z3, z4, z5⟩
        · refine sat_pos (n_eq.mpr (by rw [z1]; rfl)) (sat_gd g1 (sat_sub (mine ?_ c1)))
          omega
        · have sxn : ¬ sx = -1 := fun q => by
            rw [q] at z1
            have : (-1 : Int) = (g : Int) := z1
            omega
          have row2 := ((s4 g z2 _ z3).2 b hb).1
          obtain ⟨v, p, r⟩ := m_isBetter hw (by omega) s2 hG z3 (by omega) (by omega : b < 12) e1 z1 e4 row row2 c1 (by rw [z4]; exact z5)
          refine sat_neg sxn (sat_call p ?_)
          rcases r with ⟨rfl, r⟩ | ⟨rfl, r⟩
          · exact sat_neg i1_ne_0 (sat_gd g1 (sat_sub (mine (by rw [z4] at r; omega) c1)))
          · exact sat_pos rfl (sat_gd g1 (sat_sub (its (by rw [z4] at r; omega))))
    refine uqX12_goings_320 ?_
    unfold BX12_goings_320
    rw [ic1]
    refine sat_neg (by rw [n_le, hI_eq, s3, e4]; omega) (sat_gd (vp80 e1 (by omega)) ?_)
    rcases s6 with ⟨z1, z2⟩ | ⟨g, z1, z2, z3, z4⟩
    · refine sat_pos (n_eq.mpr (by rw [hI_eq, z1]; rfl)) (m360 (-1) (Or.inl ⟨rfl, ?_⟩))
      rw [← hold2]
      exact drop_none b z2
    · have z1 : (ea_i h 345 e).toInt = g := z1
      generalize ea_i h 345 e = v10 at z1
      have hgl := z3.1
      have v10n : ¬ v10 = -1 := fun q => by
        rw [q] at z1
        have : (-1 : Int) = (g : Int) := z1
        omega
      have kk : ((12 : Int32) * v10 + x4).toInt = 12 * (g : Int) + b := by simp (disch := omega) only [n_add, n_sub, n_mul, n_neg, n_bm, n_idx, n_if, hI_eq, l_m1000, l_m100, l_m60, l_m19, l_m18, l_m17, l_m16, l_m15, l_m14, l_m13, l_m12, l_m11, l_m10, l_m8, l_m1, l_0, l_1, l_2, l_3, l_4, l_5, l_6, l_7, l_8, l_9, l_10, l_11, l_12, l_13, l_14, l_15, l_16, l_17, l_18, l_19, l_20, l_21, l_24, l_25, l_32, l_40, l_41, l_42, l_43, l_45, l_47, l_48, l_57, l_59, l_60, l_61, l_62, l_63, l_64, l_65, l_70, l_80, l_90, l_97, l_99, l_100, l_120, l_122, l_127, l_144, l_150, l_201, l_202, l_203, l_204, l_205, l_206, l_207, l_255, l_300, l_364, l_480, l_560, l_600, l_601, l_620, l_840, l_900, l_980, l_999, l_1000, l_1023, l_1024, l_1220, l_1439, l_1440, l_2240, l_2400, l_3000, l_3600, l_4095, l_4096, l_7320, l_9999, l_10079, l_10080, l_12000, l_99999, l_120000, l_1000000, l_2147483647, z1, e4]
      have k1 : ((12 : Int32) * v10 + x4).toInt = ((12 * g + b : Nat) : Int) := by
        rw [kk]
        omega
      have ic2 : ((12 : Int32) * v10 + x4).toNatClampNeg = 12 * g + b := by
        rw [n_idx, k1]
        rfl
      refine sat_neg v10n (sat_gd (vp80 e1 (by omega)) (sat_gd (vp80 k1 (by omega)) (m360 _ ?_)))
      rw [ic2, hI_eq]
      have hs := drop_skip (tw := tW T) (L := L) (a := kA (tW T) (L.getD e 0)) b (g - (e + 1)) (e + 1) fun j h1 h2 => z4 j h1 (by omega)
      rw [show e + 1 + (g - (e + 1)) = g by omega, hold2] at hs
      rw [hs]
      rcases ((s4 g z2 _ z3).2 b hb).2 with w | ⟨g2, w1, w2, w3, w4, w5⟩
      · exact Or.inl w
      · exact Or.inr ⟨g2, w1, by omega, w3, w4, w5⟩
end GE
