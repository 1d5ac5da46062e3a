/-! the reference's least miles -/
def MFar (h : ea_H) (f : Nat → Nat) : Prop := ∀ x, x < 12 → hI h 335 x = f x
def MRoad (h : ea_H) (w : Nat → Nat → Nat) : Prop := ∀ b c, b < 12 → c < 12 → hI h 327 (12 * b + c) = w b c
def sm (f : Nat → Nat) : Nat := f 0 + f 1 + f 2 + f 3 + f 4 + f 5 + f 6 + f 7 + f 8 + f 9 + f 10 + f 11
theorem sm_lt {f : Nat → Nat} {c v : Nat} (hc : c < 12) (hv : v < f c) : sm (sp1 f c v) < sm f := by
  have h : c = 0 ∨ c = 1 ∨ c = 2 ∨ c = 3 ∨ c = 4 ∨ c = 5 ∨ c = 6 ∨ c = 7 ∨ c = 8 ∨ c = 9 ∨ c = 10 ∨ c = 11 := by omega
  unfold sm sp1
  rcases h with h | h | h | h | h | h | h | h | h | h | h | h <;> subst h <;> simp <;> omega
def spV (lo n : Nat) (w : Nat → Nat → Nat) (f0 f : Nat → Nat) (v : Int32) (b c : Nat) : Prop := (v = 1 ∧ sm f < sm f0) ∨ (v = 0 ∧ f = f0 ∧ ∀ b2 c2, lo ≤ b2 → b2 < n → lo ≤ c2 → c2 < n → (b2 < b ∨ b2 = b ∧ c2 < c) → spT w f b2 c2)
def spP (lo n a : Nat) (w : Nat → Nat → Nat) (h : ea_H) (y : Unit × ea_H) : Prop := fr [(335, 335)] h y.2 ∧ ∃ f, MFar y.2 f ∧ spI lo n a w f ∧ ∀ b c, lo ≤ b → b < n → lo ≤ c → c < n → spT w f b c
def spS (lo n a : Nat) (w : Nat → Nat → Nat) (f : Nat → Nat) (h : ea_H) : Prop := MFar h f ∧ MRoad h w ∧ hI h 326 1 = n ∧ spI lo n a w f
theorem m_sp55 {lo n a : Nat} {w : Nat → Nat → Nat} (hn : n ≤ 12) (hw : ∀ b c, w b c ≤ 999) {x2 x4 : Int32} {b : Nat} (e4 : x4.toInt = b) (hb : lo ≤ b) (hb2 : b < n) {f0 : Nat → Nat}
    (K : ∀ (f : Nat → Nat) (h : ea_H) (v : Int32), spS lo n a w f h → spV lo n w f0 f v (b + 1) lo → sat (qX12_spreads_43 x2 v (x4 + 1) h) (spP lo n a w h)) :
    ∀ (j c : Nat) (f : Nat → Nat) (h : ea_H) (v x5 : Int32), c + j = n → lo ≤ c → x5.toInt = c → spS lo n a w f h → spV lo n w f0 f v b c → sat (qX12_spreads_55 x2 v x4 x5 h) (spP lo n a w h) := by
  intro j
  induction j with
  | zero =>
    intro c f h v x5 hj hc e5 hs hv
    refine uqX12_spreads_55 ?_
    unfold BX12_spreads_55
    have h1 : ea_i h 326 1 ≤ x5 := by
      rw [n_le, hI_eq, hs.2.2.1, e5]
      omega
    refine sat_pos h1 (K f h v hs ?_)
    rcases hv with hv | ⟨v1, v2, v3⟩
    · exact Or.inl hv
    · exact Or.inr ⟨v1, v2, fun b2 c2 p1 p2 p3 p4 p5 => v3 b2 c2 p1 p2 p3 p4 (by omega)⟩
  | succ j ih =>
    intro c f h v x5 hj hc e5 hs hv
    obtain ⟨s1, s2, s3, s4⟩ := hs
    have hc12 : c < 12 := by omega
    have hb12 : b < 12 := by omega
    have e51 : (x5 + 1).toInt = ((c + 1 : Nat) : Int) := by
      rw [n_add, e5, l_1, n_bm (by omega) (by omega)]
      omega
    have i0 : ((12 : Int32) * x4 + x5).toInt = 12 * (b : Int) + c := by simp (disch := omega) only [n_add, n_sub, n_mul, n_neg, n_bm, n_idx, n_if, hI_eq, l_m1000, l_m100, l_m60, l_m19, l_m18, l_m17, l_m16, l_m15, l_m14, l_m13, l_m12, l_m11, l_m10, l_m8, l_m1, l_0, l_1, l_2, l_3, l_4, l_5, l_6, l_7, l_8, l_9, l_10, l_11, l_12, l_13, l_14, l_15, l_16, l_17, l_18, l_19, l_20, l_21, l_24, l_25, l_32, l_40, l_41, l_42, l_43, l_45, l_47, l_48, l_57, l_59, l_60, l_61, l_62, l_63, l_64, l_65, l_70, l_80, l_90, l_97, l_99, l_100, l_120, l_122, l_127, l_144, l_150, l_201, l_202, l_203, l_204, l_205, l_206, l_207, l_255, l_300, l_364, l_480, l_560, l_600, l_601, l_620, l_840, l_900, l_980, l_999, l_1000, l_1023, l_1024, l_1220, l_1439, l_1440, l_2240, l_2400, l_3000, l_3600, l_4095, l_4096, l_7320, l_9999, l_10079, l_10080, l_12000, l_99999, l_120000, l_1000000, l_2147483647, e4, e5]
    have i1 : ((12 : Int32) * x4 + x5).toInt = ((12 * b + c : Nat) : Int) := by
      rw [i0]
      omega
    have hbc : 12 * b + c < 144 := by omega
    have iw : ((12 : Int32) * x4 + x5).toNatClampNeg = 12 * b + c := by
      rw [n_idx, i1]
      rfl
    have ib : x4.toNatClampNeg = b := by
      rw [n_idx, e4]
      rfl
    have ic : x5.toNatClampNeg = c := by
      rw [n_idx, e5]
      rfl
    have fb := s4.2.1 b hb12
    have fc := s4.2.1 c hc12
    have wb := hw b c
    have fbv : (ea_i h 335 x4.toNatClampNeg).toInt = f b := by
      rw [hI_eq, ib]
      exact s1 b hb12
    have fcv : (ea_i h 335 x5.toNatClampNeg).toInt = f c := by
      rw [hI_eq, ic]
      exact s1 c hc12
    have wv : (ea_i h 327 ((12 : Int32) * x4 + x5).toNatClampNeg).toInt = w b c := by
      rw [hI_eq, iw]
      exact s2 b c hb12 hc12
    have next : spT w f b c → sat (qX12_spreads_55 x2 v x4 (x5 + 1) h) (spP lo n a w h) := by
      intro ht
      refine ih (c + 1) f h v (x5 + 1) (by omega) (by omega) e51 ⟨s1, s2, s3, s4⟩ ?_
      rcases hv with hv | ⟨v1, v2, v3⟩
      · exact Or.inl hv
      · refine Or.inr ⟨v1, v2, fun b2 c2 p1 p2 p3 p4 p5 => ?_⟩
        by_cases q : b2 = b ∧ c2 = c
        · rw [q.1, q.2]
          exact ht
        · exact v3 b2 c2 p1 p2 p3 p4 (by omega)
    refine uqX12_spreads_55 ?_
    unfold BX12_spreads_55
    have h1 : ¬ ea_i h 326 1 ≤ x5 := by
      rw [n_le, hI_eq, s3, e5]
      omega
    refine sat_neg h1 (sat_gd (vp80 i1 hbc) (sat_let fun v10 e10 => ?_))
    rw [← e10] at wv
    by_cases c1 : v10 = (0 : Int32)
    · refine sat_pos c1 (next (Or.inl ?_))
      rw [c1] at wv
      have : (0 : Int) = w b c := wv
      omega
    refine sat_neg c1 (sat_gd (vp80 e4 hb12) ?_)
    have d1 : w b c ≠ 0 := fun q => c1 (n_eq.mpr (by rw [wv, q]; rfl))
    by_cases c2 : ea_i h 335 x4.toNatClampNeg = (1000000 : Int32)
    · refine sat_pos c2 (next (Or.inr (Or.inl ?_)))
      rw [c2] at fbv
      have : (1000000 : Int) = f b := fbv
      omega
    have d2 : f b ≠ 1000000 := fun q => c2 (n_eq.mpr (by rw [fbv, q]; rfl))
    refine sat_neg c2 (sat_gd (vp80 e4 hb12) (sat_gd (vp80 e5 hc12) ?_))
    have sv : (ea_i h 335 x4.toNatClampNeg + v10).toInt = ((f b + w b c : Nat) : Int) := by
      rw [n_add, fbv, wv, n_bm (by omega) (by omega)]
      omega
    by_cases c3 : ea_i h 335 x4.toNatClampNeg + v10 < ea_i h 335 x5.toNatClampNeg
    case neg =>
      refine sat_neg c3 (next (Or.inr (Or.inr ?_)))
      rw [n_lt, sv, fcv] at c3
      omega
    have d3 : f b + w b c < f c := by
      rw [n_lt, sv, fcv] at c3
      omega
    refine sat_pos c3 (sat_gd (vp80 e4 hb12) (sat_gd (vp80 e5 hc12) (sat_let fun H16 e16 => ?_)))
    have fw : fr [(335, 335)] h H16 := by
      rw [e16]
      exact fr_wi rfl
    have f16 : MFar H16 (sp1 f c (f b + w b c)) := by
      intro x hx
      rw [e16]
      unfold sp1
      by_cases q : x = c
      · rw [if_pos q, q, ic, hI_wi, if_pos ⟨rfl, rfl⟩]
        exact sv
      · rw [if_neg q, ic, hI_wi, if_neg (fun p => q p.2)]
        exact s1 x hx
    have hS : spS lo n a w (sp1 f c (f b + w b c)) H16 := ⟨f16, fun b2 c2 p q => by rw [fw.I 327 rfl]; exact s2 b2 c2 p q, by rw [fw.I 326 rfl]; exact s3, sp_step s4 hb hb2 hc12 hn d1 d2 d3⟩
    have hV : spV lo n w f0 (sp1 f c (f b + w b c)) 1 b (c + 1) := by
      have hl := sm_lt (f := f) hc12 d3
      rcases hv with hv | ⟨v1, v2, v3⟩
      · exact Or.inl ⟨rfl, Nat.lt_trans hl hv.2⟩
      · exact Or.inl ⟨rfl, v2 ▸ hl⟩
    exact sat_mono (ih (c + 1) _ H16 1 (x5 + 1) (by omega) (by omega) e51 hS hV) fun y hy => ⟨fw.tr hy.1, hy.2⟩
theorem m_sp43 {lo n a : Nat} {w : Nat → Nat → Nat} (hn : n ≤ 12) (hln : lo ≤ n) (hw : ∀ b c, w b c ≤ 999) {x2 : Int32} (e2 : x2.toInt = lo) {f0 : Nat → Nat}
    (K : ∀ (f : Nat → Nat) (h : ea_H) (v : Int32), spS lo n a w f h → spV lo n w f0 f v n lo → sat (qX12_spreads_34 x2 v h) (spP lo n a w h)) :
    ∀ (j b : Nat) (f : Nat → Nat) (h : ea_H) (v x4 : Int32), b + j = n → lo ≤ b → x4.toInt = b → spS lo n a w f h → spV lo n w f0 f v b lo → sat (qX12_spreads_43 x2 v x4 h) (spP lo n a w h) := by
  intro j
  induction j with
  | zero =>
    intro b f h v x4 hj hb e4 hs hv
    refine uqX12_spreads_43 ?_
    unfold BX12_spreads_43
    have h1 : ea_i h 326 1 ≤ x4 := by
      rw [n_le, hI_eq, hs.2.2.1, e4]
      omega
    have hbn : b = n := by omega
    exact sat_pos h1 (K f h v hs (hbn ▸ hv))
  | succ j ih =>
    intro b f h v x4 hj hb e4 hs hv
    refine uqX12_spreads_43 ?_
    unfold BX12_spreads_43
    have h1 : ¬ ea_i h 326 1 ≤ x4 := by
      rw [n_le, hI_eq, hs.2.2.1, e4]
      omega
    have e41 : (x4 + 1).toInt = ((b + 1 : Nat) : Int) := by
      rw [n_add, e4, l_1, n_bm (by omega) (by omega)]
      omega
    exact sat_neg h1 (m_sp55 hn hw e4 hb (by omega) (fun f' h' v' s' p' => ih (b + 1) f' h' v' (x4 + 1) (by omega) (by omega) e41 s' p') (n - lo) lo f h v x2 (by omega) (Nat.le_refl _) e2 hs hv)
theorem m_sp34 {lo n a : Nat} {w : Nat → Nat → Nat} (hn : n ≤ 12) (hln : lo ≤ n) (hw : ∀ b c, w b c ≤ 999) {x2 : Int32} (e2 : x2.toInt = lo) :
    ∀ (N : Nat) (f : Nat → Nat) (h : ea_H), sm f = N → spS lo n a w f h → sat (qX12_spreads_34 x2 1 h) (spP lo n a w h) := by
  intro N
  induction N using Nat.strongRecOn with
  | _ N ih =>
    intro f0 h hN hs
    refine uqX12_spreads_34 ?_
    unfold BX12_spreads_34
    refine sat_neg i1_ne_0 (m_sp43 hn hln hw e2 (f0 := f0) (fun f h v s p => ?_) (n - lo) lo f0 h 0 x2 (by omega) (Nat.le_refl _) e2 hs (Or.inr ⟨rfl, rfl, fun b2 c2 p1 p2 p3 p4 p5 => by omega⟩))
    rcases p with ⟨v1, v2⟩ | ⟨v1, v2, v3⟩
    · subst v1
      exact ih (sm f) (hN ▸ v2) f h rfl s
    · subst v1
      refine uqX12_spreads_34 ?_
      unfold BX12_spreads_34
      refine sat_pos rfl (sat_ret ⟨fr_rfl _ _, f, s.1, s.2.2.2, fun b c p1 p2 p3 p4 => ?_⟩)
      exact v3 b c p1 p2 p3 p4 (Or.inl p2)
def spF (a : Nat) (x : Nat) : Nat := if x = a then 0 else 1000000
theorem spF_I (lo n a : Nat) (w : Nat → Nat → Nat) : spI lo n a w (spF a) := by
  refine ⟨if_pos rfl, fun b _ => ?_, fun b _ _ hb => ?_⟩
  · unfold spF
    split <;> omega
  · unfold spF at hb
    split at hb
    · exact Or.inl ‹_›
    · omega
theorem m_sp2 {lo n a : Nat} {w : Nat → Nat → Nat} (hn : n ≤ 12) (hln : lo ≤ n) (hw : ∀ b c, w b c ≤ 999) {x1 x2 : Int32} (e1 : x1.toInt = a) (e2 : x2.toInt = lo) :
    ∀ (j i : Nat) (h : ea_H) (x3 : Int32), i + j = 12 → x3.toInt = i → (∀ x, x < i → hI h 335 x = spF a x) → MRoad h w → hI h 326 1 = n → sat (qX12_spreads_2 x1 x2 x3 h) (spP lo n a w h) := by
  intro j
  induction j with
  | zero =>
    intro i h x3 hj e3 hf hr hnn
    refine uqX12_spreads_2 ?_
    unfold BX12_spreads_2
    have h1 : (12 : Int32) ≤ x3 := by
      rw [n_le, e3]
      show (12 : Int) ≤ _
      omega
    have hi : i = 12 := by omega
    exact sat_pos h1 (m_sp34 hn hln hw e2 (sm (spF a)) (spF a) h rfl ⟨fun x hx => hf x (by omega), hr, hnn, spF_I lo n a w⟩)
  | succ j ih =>
    intro i h x3 hj e3 hf hr hnn
    have hi12 : i < 12 := by omega
    have h1 : ¬ (12 : Int32) ≤ x3 := by
      rw [n_le, e3]
      show ¬ (12 : Int) ≤ _
      omega
    have e31 : (x3 + 1).toInt = ((i + 1 : Nat) : Int) := by
      rw [n_add, e3, l_1, n_bm (by omega) (by omega)]
      omega
    have ic : x3.toNatClampNeg = i := by
      rw [n_idx, e3]
      rfl
    have step : ∀ v : Int32, v.toInt = spF a i → sat (qX12_spreads_2 x1 x2 (x3 + 1) (ea_wi h 335 x3.toNatClampNeg v)) (spP lo n a w h) := by
      intro v hv
      have fw : fr [(335, 335)] h (ea_wi h 335 x3.toNatClampNeg v) := fr_wi rfl
      refine sat_mono (ih (i + 1) (ea_wi h 335 x3.toNatClampNeg v) (x3 + 1) (by omega) e31 (fun x hx => ?_) (fun b c p q => by rw [fw.I 327 rfl]; exact hr b c p q) (by rw [fw.I 326 rfl]; exact hnn)) fun y hy => ⟨fw.tr hy.1, hy.2⟩
      rw [hI_wi, ic]
      by_cases q : x = i
      · rw [if_pos ⟨rfl, q⟩, q]
        exact hv
      · rw [if_neg (fun p => q p.2)]
        exact hf x (by omega)
    refine uqX12_spreads_2 ?_
    unfold BX12_spreads_2
    refine sat_neg h1 ?_
    by_cases c1 : x3 = x1
    · have hia : i = a := by
        have := n_eq.mp c1
        omega
      refine sat_pos c1 (sat_gd (vp80 e3 hi12) (sat_let fun H e => e ▸ step 0 ?_))
      unfold spF
      rw [if_pos hia]
      rfl
    · have hia : i ≠ a := fun q => c1 (n_eq.mpr (by rw [e3, e1, q]))
      refine sat_neg c1 (sat_gd (vp80 e3 hi12) (sat_let fun H e => e ▸ step 1000000 ?_))
      unfold spF
      rw [if_neg hia]
      rfl
theorem m_milesOf {lo n a b : Nat} {w : Nat → Nat → Nat} (hn : n ≤ 12) (hln : lo ≤ n) (hw : ∀ b c, w b c ≤ 999) (hz : ∀ b c, n ≤ b ∨ n ≤ c → w b c = 0) (hb : b < 12) {x1 x2 x3 : Int32} (e1 : x1.toInt = a) (e2 : x2.toInt = b) (e3 : x3.toInt = lo) {h : ea_H} (hr : MRoad h w) (hnn : hI h 326 1 = n) :
    sat (qX12_milesOf x1 x2 x3 h) fun y => fr [(335, 335)] h y.2 ∧ ∃ f, rOk lo w a f ∧ y.1.toInt = f b := by
  unfold qX12_milesOf BX12_milesOf_0 qX12_spreads
  have H : sat (qX12_spreads_2 x1 x3 0 h) (spP lo n a w h) := m_sp2 hn hln hw e1 e3 12 0 h 0 rfl rfl (fun x hx => absurd hx (Nat.not_lt_zero x)) hr hnn
  have H2 : sat (qX12_spreads_0 x1 x3 h) (spP lo n a w h) := by
    refine uqX12_spreads_0 ?_
    unfold BX12_spreads_0
    exact H
  refine sat_bind H2 fun y hy => ?_
  obtain ⟨y1, f, y2, y3, y4⟩ := hy
  refine sat_gd (vp80 e2 hb) (sat_ret ⟨y1, f, sp_end y3 hn hz y4, ?_⟩)
  have ic : x2.toNatClampNeg = b := by
    rw [n_idx, e2]
    rfl
  show (ea_i y.2 335 x2.toNatClampNeg).toInt = _
  rw [ic, hI_eq]
  exact y2 b hb
