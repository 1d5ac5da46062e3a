/-! the reference's goings and table -/
section GT
variable {T : Nat → Nat → Nat → Nat} {L : List Nat}
theorem wV_acc (ok : tOk T) (hL : tList T L) {e b : Nat} (he : e < L.length) (hg : kGo (L.getD e 0) = 1) {h : ea_H} (r : mRow1 (tW T) L h e b (oMin T L (kT (L.getD e 0)) (kD (L.getD e 0)) b (kI (L.getD e 0) + 1) (tS T (kT (L.getD e 0)) - (kI (L.getD e 0) + 1)))) : mRow1 (tW T) L h e b (wV (tW T) L e b) := by
  have hz := (hL.2 _).mp (getD_mem he)
  have hn := ok.1
  have hz1 := hz.1
  have hs := ok.2.1 (kT (L.getD e 0)) (by omega)
  have i1 := kI_lt (L.getD e 0)
  have hA := oA ok hL (kT (L.getD e 0)) (kD (L.getD e 0)) b (kI (L.getD e 0) + 1) (tS T (kT (L.getD e 0)) - (kI (L.getD e 0) + 1))
  have h1 := oR ok hL (b := b) he hg
  have hNOW := NOW_eq
  unfold wV wTak
  rw [h1]
  generalize oMin T L (kT (L.getD e 0)) (kD (L.getD e 0)) b (kI (L.getD e 0) + 1) (tS T (kT (L.getD e 0)) - (kI (L.getD e 0) + 1)) = A at *
  rcases r with ⟨r1, r2⟩ | ⟨r1, r2, r3, r4⟩
  · rw [if_pos r1]
    exact Or.inl ⟨rfl, r2⟩
  · rw [if_neg r1]
    rcases hA with q | ⟨m, k, i, q1, q2, q3, q4, q5⟩
    · exact absurd q r1
    · have d := hz.2.1
      have hi7 : kI (L.getD e 0) + 1 < tS T (kT (L.getD e 0)) := by
        rcases hz.2.2.2 with ⟨z1, z2, z3, z4⟩ | ⟨z1, z2, z3⟩
        · omega
        · exact z2
      refine Or.inr ⟨by omega, ?_, ?_, ?_⟩
      · rw [r2]
        omega
      · rw [r3]
        omega
      · rw [r4]
        omega
theorem m_go22 (ok : tOk T) (hL : tList T L) {n e : Nat} (hn : n ≤ 12) (he : e < L.length) (hg : kGo (L.getD e 0) = 1) {x1 x2 x3 : Int32} (e1 : x1.toInt = e) (e2 : x2.toInt = ((7 * kT (L.getD e 0) + kD (L.getD e 0) : Nat) : Int)) (e3 : x3.toInt = kA (tW T) (L.getD e 0)) {h0 : ea_H} :
    ∀ (k b : Nat) (h : ea_H) (x4 : Int32), b + k = n → x4.toInt = b → gSt T L n e h → gRb T L e b h → fq [(341, 346)] [] h0 h → sat (qX12_goings_22 x1 x2 x3 x4 h) fun y => fq [(341, 346)] [] h0 y.2 ∧ MTab y.2 T ∧ mEv y.2 L ∧ hI y.2 326 1 = n ∧ mRows (tW T) L n y.2 e ∧ mFirst (tW T) L y.2 e := by
  have h9 := t_len2 ok hL
  have hw := t_wL ok hL
  have hz := (hL.2 _).mp (getD_mem he)
  have hG : isG (tW T) L (kA (tW T) (L.getD e 0)) e := ⟨he, hg, rfl⟩
  have ha : kA (tW T) (L.getD e 0) < 12 := t_town ok hz
  have ic1 : x1.toNatClampNeg = e := by
    rw [n_idx, e1]
    rfl
  have ic3 : x3.toNatClampNeg = kA (tW T) (L.getD e 0) := by
    rw [n_idx, e3]
    rfl
  intro k
  induction k with
  | zero =>
    intro b h x4 hk e4 s r f
    have hbn : b = n := by omega
    rw [hbn] at r
    obtain ⟨s1, s2, s3, s4, s5⟩ := s
    refine uqX12_goings_22 ?_
    unfold BX12_goings_22
    rw [ic1, ic3]
    refine sat_pos (by rw [n_le, hI_eq, s3, e4]; omega) (sat_gd (vp80 e3 ha) (sat_gd (vp80 e1 (by omega)) (sat_let fun H7 e7 => sat_gd (vp80 e3 ha) (sat_let fun H9 e9 => ?_))))
    have f7 : fq [(345, 346)] [] h H7 := e7 ▸ fq_wi rfl
    have f9 : fq [(345, 346)] [] H7 H9 := e9 ▸ fq_wi rfl
    have g := f7.tr f9
    have i345 : ∀ q, hI H9 345 q = if q = e then hI h 346 (kA (tW T) (L.getD e 0)) else hI h 345 q := by
      intro q
      rw [e9, hI_ne (by decide), e7, hI_row]
      rfl
    have i346 : ∀ q, hI H9 346 q = if q = kA (tW T) (L.getD e 0) then x1.toInt else hI h 346 q := by
      intro q
      rw [e9, hI_row, e7, hI_ne (by decide)]
    refine m_go320 ok hL hn he hg e1 n 0 H9 0 (by omega) rfl ⟨?_, ?_, ?_, ?_, ?_, ?_, ?_⟩ (fun b' hb => absurd hb (Nat.not_lt_zero _)) (f.tr (g.up rfl rfl))
    · exact s1.fq g rfl rfl ⟨rfl, rfl⟩ ⟨rfl, rfl⟩ ⟨rfl, rfl⟩ ⟨rfl, rfl⟩ ⟨rfl, rfl⟩
    · exact s2.fq g rfl rfl ⟨rfl, rfl⟩ ⟨rfl, rfl⟩ ⟨rfl, rfl⟩ ⟨rfl, rfl⟩
    · exact (g.I 326 rfl 1 rfl).trans s3
    · refine mRows_cg hn (fun q hq => ⟨g.C 341 rfl rfl _, g.C 342 rfl rfl _, g.C 343 rfl rfl _, g.C 344 rfl rfl _⟩) (fun q hq => ?_) s4
      rw [i345, if_neg (by omega)]
    · intro a ha2
      rw [i346]
      by_cases q : a = kA (tW T) (L.getD e 0)
      · rw [if_pos q, q]
        exact Or.inr ⟨e, e1, Nat.le_refl _, hG, fun j h1 h2 => by omega⟩
      · rw [if_neg q]
        have nG : ¬ isG (tW T) L a e := fun w => q w.2.2.symm
        rcases s5 a ha2 with ⟨w1, w2⟩ | ⟨g, w1, w2, w3, w4⟩
        · refine Or.inl ⟨w1, fun j hj => ?_⟩
          by_cases z : j = e
          · rw [z]
            exact nG
          · exact w2 j (by omega)
        · refine Or.inr ⟨g, w1, by omega, w3, fun j h1 h2 => ?_⟩
          by_cases z : j = e
          · rw [z]
            exact nG
          · exact w4 j (by omega) h2
    · rw [i345, if_pos rfl]
      exact s5 _ ha
    · intro b' hb
      unfold mRow1
      rw [g.C 341 rfl rfl, g.C 342 rfl rfl, g.C 343 rfl rfl]
      exact r b' hb
  | succ k ih =>
    intro b h x4 hk e4 s r f
    have hb : b < n := by omega
    have e41 : (x4 + 1).toInt = ((b + 1 : Nat) : Int) := by
      rw [n_add, e4, l_1, n_bm (by omega) (by omega)]
      omega
    have j0 : ((12 : Int32) * x1 + x4).toInt = 12 * (e : Int) + b := by simp (disch := omega) only [n_add, n_sub, n_mul, n_neg, n_bm, n_idx, n_if, hI_eq, l_m1000, l_m100, l_m60, l_m19, l_m18, l_m17, l_m16, l_m15, l_m14, l_m13, l_m12, l_m11, l_m10, l_m8, l_m1, l_0, l_1, l_2, l_3, l_4, l_5, l_6, l_7, l_8, l_9, l_10, l_11, l_12, l_13, l_14, l_15, l_16, l_17, l_18, l_19, l_20, l_21, l_24, l_25, l_32, l_40, l_41, l_42, l_43, l_45, l_47, l_48, l_57, l_59, l_60, l_61, l_62, l_63, l_64, l_65, l_70, l_80, l_90, l_97, l_99, l_100, l_120, l_122, l_127, l_144, l_150, l_201, l_202, l_203, l_204, l_205, l_206, l_207, l_255, l_300, l_364, l_480, l_560, l_600, l_601, l_620, l_840, l_900, l_980, l_999, l_1000, l_1023, l_1024, l_1220, l_1439, l_1440, l_2240, l_2400, l_3000, l_3600, l_4095, l_4096, l_7320, l_9999, l_10079, l_10080, l_12000, l_99999, l_120000, l_1000000, l_2147483647, e1, e4]
    have j1 : ((12 : Int32) * x1 + x4).toInt = ((12 * e + b : Nat) : Int) := by
      rw [j0]
      omega
    have ic : ((12 : Int32) * x1 + x4).toNatClampNeg = 12 * e + b := by
      rw [n_idx, j1]
      rfl
    refine uqX12_goings_22 ?_
    unfold BX12_goings_22
    refine sat_neg (by rw [n_le, hI_eq, s.2.2.1, e4]; omega) (sat_sub (sat_gd (vp80 j1 (by omega)) (sat_let fun H12 e12 => sat_gd (vp80 e1 (by omega)) (sat_sub ?_))))
    rw [ic] at e12
    rw [ic1]
    have f12 : fq [(341, 343)] [] h H12 := e12 ▸ fq_wi rfl
    have s12 : gSt T L n e H12 := e12 ▸ gSt_wi hn rfl (by omega) s
    have v14 : (ea_i H12 339 e + (1 : Int32)).toInt = ((kI (L.getD e 0) + 1 + 0 : Nat) : Int) := by
      have i1 := kI_lt (L.getD e 0)
      have := (s12.2.1.2 e he).2.2.2
      rw [n_add, hI_eq, this, l_1, n_bm (by omega) (by omega)]
      omega
    have hsz : kI (L.getD e 0) + 1 < tS T (kT (L.getD e 0)) := by
      rcases hz.2.2.2 with ⟨z1, z2, z3, z4⟩ | ⟨z1, z2, z3⟩
      · omega
      · exact z2
    refine m_go60 ok hL hn hb he hg (h0 := H12) e2 e4 j1 (fun h' q1 q2 q3 q4 => ?_) (tS T (kT (L.getD e 0)) - (kI (L.getD e 0) + 1)) 0 H12 _ (by omega) v14 s12 (e12 ▸ gRb_wi (Nat.le_refl _) r) ?_ (fq_rfl _ _ _)
    · refine ih (b + 1) h' (x4 + 1) (by omega) e41 q1 (fun b' hb' => ?_) (f.tr ((f12.tr q4).up rfl rfl))
      · by_cases z : b' = b
        · rw [z]
          exact wV_acc ok hL he hg q3
        · exact q2 b' (by omega)
    · unfold mRow1
      rw [e12, hI_at]
      exact Or.inl ⟨rfl, rfl⟩
theorem m_goings (ok : tOk T) (hL : tList T L) {n e : Nat} (hn : n ≤ 12) (he : e < L.length) (hg : kGo (L.getD e 0) = 1) {x1 : Int32} (e1 : x1.toInt = e) {h : ea_H} (s : gSt T L n e h) :
    sat (qX12_goings x1 h) fun y => fq [(341, 346)] [] h y.2 ∧ MTab y.2 T ∧ mEv y.2 L ∧ hI y.2 326 1 = n ∧ mRows (tW T) L n y.2 e ∧ mFirst (tW T) L y.2 e := by
  have h9 := t_len2 ok hL
  have hz := (hL.2 _).mp (getD_mem he)
  have hnT := ok.1
  have hz1 := hz.1
  have ic1 : x1.toNatClampNeg = e := by
    rw [n_idx, e1]
    rfl
  obtain ⟨-, c1, c2, c3⟩ := s.2.1.2 e he
  have v2 : (ea_i h 338 e).toInt = ((7 * kT (L.getD e 0) + kD (L.getD e 0) : Nat) : Int) := c2
  have v3 : (ea_i h 339 e).toInt = kI (L.getD e 0) := c3
  obtain ⟨w, p, r⟩ := m_townOf v2 v3 s.1 (by omega) hz.2.1 (kI_lt _)
  unfold qX12_goings
  refine uqX12_goings_0 ?_
  unfold BX12_goings_0
  rw [ic1]
  refine sat_gd (vp80 e1 (by omega)) (sat_sub (sat_gd (vp80 e1 (by omega)) (sat_call p ?_)))
  exact m_go22 ok hL hn he hg e1 v2 r n 0 h 0 (by omega) rfl s (fun b' hb => absurd hb (Nat.not_lt_zero _)) (fq_rfl _ _ _)
def WaysM (T : Nat → Nat → Nat → Nat) (L : List Nat) (n : Nat) (h : ea_H) : Prop := mEv h L ∧ mRows (tW T) L n h 0 ∧ mFirst (tW T) L h 0
theorem m_tab221 (ok : tOk T) (hL : tList T L) {n : Nat} (hn : n ≤ 12) {h0 : ea_H} :
    ∀ (p : Nat) (h : ea_H) (x2 : Int32), p ≤ L.length → x2.toInt = (p : Int) - 1 → MTab h T → mEv h L → hI h 326 1 = n → mRows (tW T) L n h p → mFirst (tW T) L h p → fq [(341, 346)] [] h0 h → sat (qX12_table_221 x2 h) fun y => fq [(341, 346)] [] h0 y.2 ∧ WaysM T L n y.2 := by
  have h9 := t_len2 ok hL
  intro p
  induction p with
  | zero =>
    intro h x2 hp e2 s1 s2 s3 s4 s5 f
    refine uqX12_table_221 ?_
    unfold BX12_table_221
    exact sat_pos (by rw [n_lt, e2, l_0]; omega) (sat_ret ⟨f, s2, s4, s5⟩)
  | succ p ih =>
    intro h x2 hp e2 s1 s2 s3 s4 s5 f
    have e2p : x2.toInt = p := by
      rw [e2]
      omega
    have ic : x2.toNatClampNeg = p := by
      rw [n_idx, e2p]
      rfl
    have e21 : (x2 + ((-1) : Int32)).toInt = (p : Int) - 1 := by
      rw [n_add, e2p, l_m1, n_bm (by omega) (by omega)]
      omega
    obtain ⟨-, c1, c2, c3⟩ := s2.2 p (by omega)
    refine uqX12_table_221 ?_
    unfold BX12_table_221
    rw [ic]
    refine sat_neg (by rw [n_lt, e2p, l_0]; omega) (sat_gd (vp80 e2p (by omega)) ?_)
    by_cases q : kGo (L.getD p 0) = 1
    · refine sat_pos (n_eq.mpr (by rw [hI_eq, c1, q]; rfl)) (sat_bind (m_goings ok hL hn (by omega) q e2p ⟨s1, s2, s3, s4, s5⟩) fun y hy => ?_)
      obtain ⟨y0, y1, y2, y3, y4, y5⟩ := hy
      exact ih y.2 _ (by omega) e21 y1 y2 y3 y4 y5 (f.tr y0)
    · have nG : ∀ a, ¬ isG (tW T) L a p := fun a w => q w.2.1
      refine sat_neg (fun z => q (by have := n_eq.mp z; rw [hI_eq, c1, l_1] at this; omega)) (ih h _ (by omega) e21 s1 s2 s3 (fun e he a ha => ?_) (fun a ha => ?_) f)
      · by_cases z : e = p
        · rw [z] at ha
          exact absurd ha (nG a)
        · exact s4 e (by omega) a ha
      · rcases s5 a ha with ⟨w1, w2⟩ | ⟨g, w1, w2, w3, w4⟩
        · refine Or.inl ⟨w1, fun j hj => ?_⟩
          by_cases z : j = p
          · rw [z]
            exact nG a
          · exact w2 j (by omega)
        · refine Or.inr ⟨g, w1, by omega, w3, fun j h1 h2 => ?_⟩
          by_cases z : j = p
          · rw [z]
            exact nG a
          · exact w4 j (by omega) h2
end GT
