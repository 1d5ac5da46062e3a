/-! the reference's table whole; its best going; its call way -/
section GW
variable {T : Nat → Nat → Nat → Nat} {L : List Nat}
theorem m_tab195 (ok : tOk T) (hL : tList T L) {n : Nat} (hn : n ≤ 12) {h0 : ea_H} :
    ∀ (k i : Nat) (h : ea_H) (x2 : Int32), i + k = 12 → x2.toInt = i → MTab h T → mEv h L → hI h 326 1 = n → (∀ a, a < i → hI h 346 a = -1) → fq [(341, 346)] [] h0 h → sat (qX12_table_195 x2 h) fun y => fq [(341, 346)] [] h0 y.2 ∧ WaysM T L n y.2 := by
  have h9 := t_len2 ok hL
  intro k
  induction k with
  | zero =>
    intro i h x2 hk e2 s1 s2 s3 s4 f
    have h13 : (ea_i h 326 13).toInt = L.length := s2.1
    refine uqX12_table_195 ?_
    unfold BX12_table_195
    refine sat_pos (by rw [n_le, e2, l_12]; omega) (sat_sub (m_tab221 ok hL hn L.length h _ (Nat.le_refl _) ?_ s1 s2 s3 (fun e he a ha => ?_) (fun a ha => ?_) f))
    · rw [n_sub, h13, l_1, n_bm (by omega) (by omega)]
    · have := ha.1
      omega
    · exact Or.inl ⟨s4 a (by omega), fun j hj hg => by have := hg.1; omega⟩
  | succ k ih =>
    intro i h x2 hk e2 s1 s2 s3 s4 f
    have ic : x2.toNatClampNeg = i := by
      rw [n_idx, e2]
      rfl
    refine uqX12_table_195 ?_
    unfold BX12_table_195
    rw [ic]
    refine sat_neg (by rw [n_le, e2, l_12]; omega) (sat_gd (vp80 e2 (by omega)) (sat_let fun H e => ?_))
    have g : fq [(346, 346)] [] h H := e ▸ fq_wi rfl
    refine ih (i + 1) H (x2 + 1) (by omega) (by rw [n_add, e2, l_1, n_bm (by omega) (by omega)]; omega) (s1.fq g rfl rfl ⟨rfl, rfl⟩ ⟨rfl, rfl⟩ ⟨rfl, rfl⟩ ⟨rfl, rfl⟩ ⟨rfl, rfl⟩) (s2.fq g rfl rfl ⟨rfl, rfl⟩ ⟨rfl, rfl⟩ ⟨rfl, rfl⟩ ⟨rfl, rfl⟩) ((g.I 326 rfl 1 rfl).trans s3) (fun a ha => ?_) (f.tr (g.up rfl rfl))
    rw [e, hI_row]
    by_cases q : a = i
    · rw [if_pos q]
      rfl
    · rw [if_neg q]
      exact s4 a (by omega)
theorem m_tab20 (ok : tOk T) {P : Unit × ea_H → Prop} {h0 : ea_H}
    (K : ∀ h, fq [(336, 340)] [((326, 326), 13, 13)] h0 h → MTab h T → (∀ r, r < 70 → hI h 340 r = 0) → hI h 326 13 = 0 → sat (qX12_table_41 h) P) :
    ∀ (k i : Nat) (h : ea_H) (x1 : Int32), i + k = 70 → x1.toInt = i → MTab h T → (∀ r, r < i → hI h 340 r = 0) → hI h 326 13 = 0 → fq [(336, 340)] [((326, 326), 13, 13)] h0 h → sat (qX12_table_20 x1 h) P := by
  intro k
  induction k with
  | zero =>
    intro i h x1 hk e1 s1 s2 s3 f
    refine uqX12_table_20 ?_
    unfold BX12_table_20
    exact sat_pos (by rw [n_le, e1, l_70]; omega) (K h f s1 (fun r hr => s2 r (by omega)) s3)
  | succ k ih =>
    intro i h x1 hk e1 s1 s2 s3 f
    have ic : x1.toNatClampNeg = i := by
      rw [n_idx, e1]
      rfl
    refine uqX12_table_20 ?_
    unfold BX12_table_20
    rw [ic]
    refine sat_neg (by rw [n_le, e1, l_70]; omega) (sat_gd (vp80 e1 (by omega)) (sat_let fun H e => ?_))
    have g : fq [(340, 340)] [] h H := e ▸ fq_wi rfl
    refine ih (i + 1) H (x1 + 1) (by omega) (by rw [n_add, e1, l_1, n_bm (by omega) (by omega)]; omega) (s1.fq g rfl rfl ⟨rfl, rfl⟩ ⟨rfl, rfl⟩ ⟨rfl, rfl⟩ ⟨rfl, rfl⟩ ⟨rfl, rfl⟩) (fun r hr => ?_) ((g.I 326 rfl 13 rfl).trans s3) (f.tr (g.up rfl rfl))
    rw [e, hI_row]
    by_cases q : r = i
    · rw [if_pos q]
      rfl
    · rw [if_neg q]
      exact s2 r (by omega)
theorem m_table (ok : tOk T) (hL : tList T L) {n : Nat} (hn : n ≤ 12) {h : ea_H} (hT : MTab h T) (hn1 : hI h 326 1 = n) (hk : hI h 326 12 = 0 ∨ hI h 326 12 = 1 ∧ WaysM T L n h) :
    sat (qX12_table h) fun y => fq [(336, 346)] [((326, 326), 12, 13)] h y.2 ∧ hI y.2 326 12 = 1 ∧ WaysM T L n y.2 := by
  unfold qX12_table
  refine uqX12_table_0 ?_
  unfold BX12_table_0
  rcases hk with q | ⟨q1, q2⟩
  · refine sat_pos (n_eq.mpr (by rw [hI_eq, q]; rfl)) (sat_let fun H1 e1 => sat_let fun H2 e2 => ?_)
    have f1 : fq [(336, 346)] [((326, 326), 12, 13)] h H1 := e1 ▸ fq_wf rfl
    have f2 : fq [(336, 346)] [((326, 326), 12, 13)] H1 H2 := e2 ▸ fq_wf rfl
    have g := f1.tr f2
    have k2 : hI H2 326 12 = 1 := by
      rw [e2, hI_nk (by decide), e1, hI_at]
      rfl
    have k3 : hI H2 326 13 = 0 := by
      rw [e2, hI_at]
      rfl
    have t2 : MTab H2 T := hT.fq g rfl rfl ⟨rfl, rfl⟩ ⟨rfl, rfl⟩ ⟨rfl, rfl⟩ ⟨rfl, rfl⟩ ⟨rfl, rfl⟩
    refine m_tab20 ok (h0 := H2) (fun h3 f3 t3 z3 c3 => ?_) 70 0 H2 0 rfl rfl t2 (fun r hr => absurd hr (Nat.not_lt_zero _)) k3 (fq_rfl _ _ _)
    refine m_tab41 ok (h0 := h3) (fun h4 E f4 t4 ev4 hE => ?_) 981 h3 [] (fun _ => 0) rfl ⟨t3, ⟨c3, fun e he => absurd he (Nat.not_lt_zero _)⟩, z3, fun _ => Nat.zero_le _, List.Pairwise.nil, fun x => ⟨fun hx => absurd hx List.not_mem_nil, fun hx => absurd hx.2 (Nat.not_lt_zero _)⟩, fun x hx => absurd hx List.not_mem_nil⟩ (fq_rfl _ _ _)
    have hEL : E = L := t_uniq hE hL
    rw [hEL] at ev4
    refine uqX12_table_188 ?_
    unfold BX12_table_188
    have g4 := g.tr ((f3.tr f4).up rfl rfl)
    refine sat_pos rfl (sat_mono (m_tab195 ok hL hn (h0 := h4) 12 0 h4 0 rfl rfl t4 ev4 ((g4.I 326 rfl 1 rfl).trans hn1) (fun a ha => absurd ha (Nat.not_lt_zero _)) (fq_rfl _ _ _)) fun y hy => ⟨g4.tr (hy.1.up rfl rfl), ?_, hy.2⟩)
    rw [hy.1.I 326 rfl 12 rfl, (f3.tr f4).I 326 rfl 12 rfl]
    exact k2
  · refine sat_neg (fun z => ?_) (sat_ret ⟨fq_rfl _ _ _, q1, q2⟩)
    have := n_eq.mp z
    rw [hI_eq, q1] at this
    exact absurd this (by decide)
theorem m_bestFrom (ok : tOk T) (hL : tList T L) {n a m b : Nat} (hn : n ≤ 12) (ha : a < 12) (hb : b < n) {x1 x2 x3 : Int32} (e1 : x1.toInt = a) (e2 : x2.toInt = m) (e3 : x3.toInt = b) {h : ea_H} (hT : MTab h T) (hn1 : hI h 326 1 = n) (hk : hI h 326 12 = 0 ∨ hI h 326 12 = 1 ∧ WaysM T L n h) :
    sat (qX12_bestFrom x1 x2 x3 h) fun y => fq [(336, 346)] [((326, 326), 12, 13)] h y.2 ∧ hI y.2 326 12 = 1 ∧ WaysM T L n y.2 ∧ mBest (tW T) L a b 0 ((wRS (tW T) (wFrom L m)).2 a b) y.1.toInt := by
  have h9 := t_len2 ok hL
  have hw := t_wL ok hL
  unfold qX12_bestFrom BX12_bestFrom_0
  refine sat_bind (m_table ok hL hn hT hn1 hk) fun y hy => ?_
  obtain ⟨f, k, ev, rw0, fs⟩ := hy
  obtain ⟨v, p, r, -⟩ := m_going (by omega) ev rw0 fs ha e1 e2 (fun j hj => absurd hj (Nat.not_lt_zero _))
  refine sat_call p ?_
  rcases r with ⟨q1, q2⟩ | ⟨g, q1, q2, q3, q4⟩
  · exact sat_pos (n_eq.mpr (by rw [q1]; rfl)) (sat_ret ⟨f, k, ⟨ev, rw0, fs⟩, Or.inl ⟨rfl, gFr_none hw b q2⟩⟩)
  · have hgl := q2.1
    have vn : ¬ v = -1 := fun q => by
      rw [q] at q1
      have : (-1 : Int) = (g : Int) := q1
      omega
    have kk : ((12 : Int32) * v + x3).toInt = 12 * (g : Int) + b := by simp (disch := omega) only [n_add, n_sub, n_mul, n_neg, n_bm, n_idx, n_if, hI_eq, l_m1000, l_m100, l_m60, l_m19, l_m18, l_m17, l_m16, l_m15, l_m14, l_m13, l_m12, l_m11, l_m10, l_m8, l_m1, l_0, l_1, l_2, l_3, l_4, l_5, l_6, l_7, l_8, l_9, l_10, l_11, l_12, l_13, l_14, l_15, l_16, l_17, l_18, l_19, l_20, l_21, l_24, l_25, l_32, l_40, l_41, l_42, l_43, l_45, l_47, l_48, l_57, l_59, l_60, l_61, l_62, l_63, l_64, l_65, l_70, l_80, l_90, l_97, l_99, l_100, l_120, l_122, l_127, l_144, l_150, l_201, l_202, l_203, l_204, l_205, l_206, l_207, l_255, l_300, l_364, l_480, l_560, l_600, l_601, l_620, l_840, l_900, l_980, l_999, l_1000, l_1023, l_1024, l_1220, l_1439, l_1440, l_2240, l_2400, l_3000, l_3600, l_4095, l_4096, l_7320, l_9999, l_10079, l_10080, l_12000, l_99999, l_120000, l_1000000, l_2147483647, q1, e3]
    have k1 : ((12 : Int32) * v + x3).toInt = ((12 * g + b : Nat) : Int) := by
      rw [kk]
      omega
    have ic2 : ((12 : Int32) * v + x3).toNatClampNeg = 12 * g + b := by
      rw [n_idx, k1]
      rfl
    refine sat_neg vn (sat_gd (vp80 k1 (by omega)) (sat_ret ⟨f, k, ⟨ev, rw0, fs⟩, ?_⟩))
    show mBest _ _ _ _ _ _ (ea_i y.2 344 ((12 : Int32) * v + x3).toNatClampNeg).toInt
    rw [ic2, hI_eq, gFr_some hw b q2 q3 q4]
    rcases ((rw0 g (Nat.zero_le _) a q2).2 b hb).2 with w | ⟨g2, w1, w2, w3, w4, w5⟩
    · exact Or.inl w
    · exact Or.inr ⟨g2, w1, Nat.zero_le _, w3, w4, w5⟩
end GW
