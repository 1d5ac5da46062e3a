/-! the class's cells and the reference's, apart; the letters' part of the state; the call minutes -/
def hiq (h h' : ea_H) : Prop := ∀ a k, 326 ≤ a → hI h' a k = hI h a k
def loq (h h' : ea_H) : Prop := (∀ a k, a < 326 → hI h' a k = hI h a k) ∧ ∀ a k, a < 326 → hJ h' a k = hJ h a k
theorem fq.hiq {A : List (Nat × Nat)} {B : List ((Nat × Nat) × Nat × Nat)} {h h' : ea_H} (f : fq A B h h') (w : ((A.all fun q => decide (q.2 < 326)) && B.all fun q => decide (q.1.2 < 326)) = true) : hiq h h' := by
  rw [Bool.and_eq_true] at w
  intro a k ha
  refine f.I a ?_ k ?_
  · rw [Bool.eq_false_iff]
    intro z
    obtain ⟨q, q1, q2, q3⟩ := inB_iff.mp z
    have := List.all_eq_true.mp w.1 q q1
    rw [decide_eq_true_eq] at this
    omega
  · rw [Bool.eq_false_iff]
    intro z
    obtain ⟨q, q1, q2, q3⟩ := inP_iff.mp z
    have := List.all_eq_true.mp w.2 q q1
    rw [decide_eq_true_eq] at this
    omega
theorem fq.loq {A : List (Nat × Nat)} {B : List ((Nat × Nat) × Nat × Nat)} {h h' : ea_H} (f : fq A B h h') (w : ((A.all fun q => decide (326 ≤ q.1)) && B.all fun q => decide (326 ≤ q.1.1)) = true) : loq h h' := by
  rw [Bool.and_eq_true] at w
  have hA : ∀ a, a < 326 → inB A a = false := by
    intro a ha
    rw [Bool.eq_false_iff]
    intro z
    obtain ⟨q, q1, q2, q3⟩ := inB_iff.mp z
    have := List.all_eq_true.mp w.1 q q1
    rw [decide_eq_true_eq] at this
    omega
  refine ⟨fun a k ha => f.I a (hA a ha) k ?_, fun a k ha => f.J a (hA a ha) k⟩
  rw [Bool.eq_false_iff]
  intro z
  obtain ⟨q, q1, q2, q3⟩ := inP_iff.mp z
  have := List.all_eq_true.mp w.2 q q1
  rw [decide_eq_true_eq] at this
  omega
theorem RM0.hi {m : Nat} {X : Nat → Nat → Int} {h h' : ea_H} (e : hiq h h') (r : RM0 m X h) : RM0 m X h' := by
  obtain ⟨⟨p0, p1⟩, p2, p3, p4, p5⟩ := r
  refine ⟨⟨(e 326 63 (by decide)).trans p0, p1⟩, fun k => ?_, fun l hl hz => (e 387 l (by decide)).trans (p3 l hl hz), fun t d ht hd => (e 386 _ (by decide)).trans (p4 t d ht hd), fun k => or01 (e 387 k (by decide)) (p5 k)⟩
  rw [e 381 k (by decide), e 382 k (by decide), e 383 k (by decide), e 384 k (by decide), e 385 k (by decide), e 376 k (by decide), e 388 k (by decide), e 389 k (by decide), e 390 k (by decide)]
  exact p2 k
theorem DFm.hi {m : Nat} {D : Nat → Int} {X : Nat → Nat → Int} {h h' : ea_H} (e : hiq h h') (r : DFm m D X h) : DFm m D X h' := fun l hl hz => (e 377 l (by decide)).trans (r l hl hz)
theorem GM.hi {n : Nat} {G : Nat → Nat → Int} {h h' : ea_H} (e : hiq h h') (c : GM n G h) : GM n G h' := by
  obtain ⟨m, k, ⟨a1, a2, a3, a4, a5, a6⟩, b, c, d⟩ := c
  refine ⟨m, k, ⟨a1, a2, a3, a4, (e 326 63 (by decide)).trans a5, (e 326 92 (by decide)).trans a6⟩, fun l hl => ?_, fun t d' i ht hd hi => (e 334 _ (by decide)).trans (c t d' i ht hd hi), fun q hq => ?_⟩
  · rw [e 366 l (by decide), e 380 l (by decide), e 373 l (by decide)]
    obtain ⟨b1, b2, b3⟩ := b l hl
    refine ⟨b1, b2, ?_⟩
    rcases b3 with b3 | ⟨a, b4, b5, b6, b7⟩
    · exact Or.inl b3
    · exact Or.inr ⟨a, b4, b5, (e 354 a (by decide)).trans b6, b7⟩
  · rw [e 392 q (by decide), e 393 q (by decide), e 394 q (by decide)]
    exact d q hq
theorem MTab.hi {T : Nat → Nat → Nat → Nat} {h h' : ea_H} (e : hiq h h') (c : MTab h T) : MTab h' T := by
  obtain ⟨c1, c2, c3, c4⟩ := c
  refine ⟨(e 326 2 (by decide)).trans c1, fun t ht => (e 328 _ (by decide)).trans (c2 t ht), fun t i ht hi => ?_, fun t d ht hd => (e 332 _ (by decide)).trans (c4 t d ht hd)⟩
  rw [e 329 _ (by decide), e 330 _ (by decide), e 331 _ (by decide)]
  exact c3 t i ht hi
theorem SWyM.hi {T : Nat → Nat → Nat → Nat} {n : Nat} (hn : n ≤ 12) {h h' : ea_H} (e : hiq h h') (c : SWyM h T n) : SWyM h' T n := by
  rcases c with c | ⟨c, c1⟩
  · exact Or.inl ((e 326 12 (by decide)).trans c)
  · refine Or.inr ⟨(e 326 12 (by decide)).trans c, fun L hL => ?_⟩
    obtain ⟨d1, d2, d3⟩ := c1 L hL
    refine ⟨⟨(e 326 13 (by decide)).trans d1.1, fun q hq => ?_⟩, mRows_cg hn (fun j _ => ⟨e 341 j (by decide), e 342 j (by decide), e 343 j (by decide), e 344 j (by decide)⟩) (fun j _ => e 345 j (by decide)) d2, fun a ha => ?_⟩
    · rw [e 336 _ (by decide), e 337 _ (by decide), e 338 _ (by decide), e 339 _ (by decide)]
      exact d1.2 q hq
    · rw [e 346 a (by decide)]
      exact d3 a ha
theorem RC52.lo {m : Nat} {X : Nat → Nat → Int} {h h' : ea_H} (e : loq h h') (r : RC52 m X h) : RC52 m X h' := by
  obtain ⟨a0, a2, a3, a4, a5, a6, a7⟩ := r
  refine ⟨by rw [e.1 52 0 (by decide)]; exact a0, fun l hl => ?_, fun r hr => by rw [e.1 58 r (by decide)]; exact a3 r hr, fun a ha => by rw [e.1 60 a (by decide)]; exact a4 a ha, fun r hr => by rw [e.1 61 r (by decide)]; exact a5 r hr, by rw [e.1 52 10 (by decide)]; exact a6, fun k => or01 (e.1 57 k (by decide)) (a7 k)⟩
  rw [e.1 53 l (by decide), e.1 54 l (by decide), e.1 55 l (by decide), e.1 56 l (by decide), e.1 57 l (by decide), e.1 59 l (by decide)]
  exact a2 l hl
theorem mkB_lo {h h' : ea_H} (e : loq h h') (c l : Nat) : mkB h' c l = mkB h c l := by
  unfold mkB
  have : ea_j h' 51 (2 * c + l / 64) = ea_j h 51 (2 * c + l / 64) := n_eqJ.mpr (e.2 51 _ (by decide))
  rw [this]
theorem RN.lo {m : Nat} (hm : m ≤ 120) {X : Nat → Nat → Int} {h h' : ea_H} (e : loq h h') (r : RN m X h) : RN m X h' := by
  refine ⟨fun l hl => ?_, fun l hl hl2 => ?_⟩
  · rw [e.1 (76 + 2 * l) 16 (by omega), e.1 (76 + 2 * l) 17 (by omega)]
    exact r.1 l hl
  · obtain ⟨u1, u2, u3⟩ := r.2 l hl hl2
    rw [e.1 (76 + 2 * l) 16 (by omega), e.1 56 l (by decide)]
    exact ⟨u1, u2, fun c => (mkB_lo e c l).trans (u3 c)⟩
theorem GC.lo {G : Nat → Nat → Int} {h h' : ea_H} (e : loq h h') (c : GC G h) : GC G h' := by
  obtain ⟨m, k, ⟨a1, a2, a3, a4, a5⟩, b, c, d⟩ := c
  refine ⟨m, k, ⟨a1, a2, a3, a4, (e.1 18 0 (by decide)).trans a5⟩, fun l hl => ?_, fun r hr => ?_, fun q hq => ?_⟩
  · rw [e.1 (76 + 2 * l) 2 (by omega), e.1 (76 + 2 * l) 14 (by omega), e.1 (76 + 2 * l) 15 (by omega)]
    exact b l hl
  · obtain ⟨M, m1, m2⟩ := c r hr
    exact ⟨M, (e.1 12 r (by decide)).trans m1, m2⟩
  · rw [e.1 19 q (by decide), e.1 20 q (by decide), e.1 21 q (by decide)]
    exact d q hq
theorem SWyC.lo {T : Nat → Nat → Nat → Nat} {h h' : ea_H} (e : loq h h') (c : SWyC h T) : SWyC h' T := by
  rcases c with c | ⟨c, L, c1, c2, c3, c4⟩
  · exact Or.inl ((e.1 13 0 (by decide)).trans c)
  · refine Or.inr ⟨(e.1 13 0 (by decide)).trans c, L, c1, (e.1 13 1 (by decide)).trans c2, fun q hq => (e.1 14 q (by decide)).trans (c3 q hq), fun q hq => ?_⟩
    rw [e.2 15 q (by decide)]
    exact c4 q hq
theorem fstB_ex {L : List Nat} (h : wL L) (mi : Nat) : ∃ p, fstB L mi p := by
  obtain ⟨p, -, e⟩ := wFrom_drop h (mi + 1)
  refine ⟨min p L.length, Nat.min_le_right _ _, fun j hj => ?_⟩
  have := e j hj
  constructor
  · intro q
    have := this.mp (by omega)
    omega
  · intro q
    have := this.mpr (by omega)
    omega
/-- the letters' part of the state -/
def SBg (h : ea_H) (n : Nat) (T : Nat → Nat → Nat → Nat) (m : Nat) (X G : Nat → Nat → Int) : Prop :=
  G 7 0 = m ∧ GC G h ∧ GM n G h ∧ RC52 m X h ∧ RN m X h ∧ RM0 m X h ∧ DFm m (fun _ => hI h 326 0 / 1440) X h ∧ ∃ L p, tList T L ∧ fstB L (hI h 326 0).toNat p ∧ XOk T m (fun _ => 2 + (p : Int)) X ∧ ∀ l, l < m → Ld1 T L G (fun l => hI h (76 + 2 * l) 6) (fun l => hI h (76 + 2 * l) 1) (fun c => mkB h c l) p X l ∧ 0 ≤ hI h (76 + 2 * l) 6 ∧ hI h (76 + 2 * l) 6 ≤ hI h 326 0
theorem Ld1_cg {T : Nat → Nat → Nat → Nat} {L : List Nat} {G : Nat → Nat → Int} {pf fr pf' fr' : Nat → Int} {M : Nat → Bool} {e : Nat} {X : Nat → Nat → Int} {l : Nat} (h1 : pf' l = pf l) (h2 : fr' l = fr l) (h : Ld1 T L G pf fr M e X l) : Ld1 T L G pf' fr' M e X l := by
  unfold Ld1 at h ⊢
  rw [h1, h2]
  exact h
theorem call_minutes {h : ea_H} {n m : Nat} {T : Nat → Nat → Nat → Nat} {X G : Nat → Nat → Int} (hs : ShC h) (bs : SBas h n) (b : STb h T) (wc : SWyC h T) (wm : SWyM h T n) (sb : SBg h n T m X G) (x1 : Int32) :
    tw (qX11_minutes x1 h) (qX12_minutes x1) fun h' => fq [(13, 17), (22, 22), (51, 51), (53, 61), (336, 346), (376, 377), (381, 390), (395, 395)] [((0, 0), 14, 15), ((52, 52), 10, 10), ((76, 315), 16, 17), ((326, 326), 0, 0), ((326, 326), 12, 13)] h h' ∧ (h' = h ∨ hI h' 0 15 = 0 ∧ hI h 326 0 ≤ hI h' 326 0 ∧ SBas h' n ∧ SWyC h' T ∧ SWyM h' T n ∧ ∃ X', SBg h' n T m X' G ∧ ∃ L p, tList T L ∧ fstB L (hI h 326 0).toNat p ∧ X' = caX T L G (hI h' 326 0).toNat (L.drop p) (hI h 326 0).toNat X) := by
  have bs0 := bs
  obtain ⟨b1, b2, b3, b4, b5, b6⟩ := bs
  obtain ⟨ok, cC, cM⟩ := b
  obtain ⟨hG, gc, gm, rc, rn, rm, df, L, p, hL, hp, hX, hld⟩ := sb
  have h9 := t_len2 ok hL
  have hw := t_wL ok hL
  have hm := rc.1.2
  have ref : ∀ (h1 : ea_H) (Q : Int32 × ea_H → Prop), hI h1 326 0 = hI h 326 0 → (¬ ((1 ≤ x1.toInt ∧ x1.toInt ≤ 3000) ∧ hI h 326 0 + x1.toInt ≤ 10079) → sat (some ((-1 : Int32), h1)) Q) → ((1 ≤ x1.toInt ∧ x1.toInt ≤ 3000) → hI h 326 0 + x1.toInt ≤ 10079 → sat (Option.bind (qX12_leadsOn (ea_i h1 326 0) (ea_i h1 326 0 + x1) h1) fun w2 => ea_let (ea_wi w2.2 326 0 (ea_i w2.2 326 0 + x1)) fun H3 => some (ea_i H3 326 0, H3)) Q) → sat (qX12_minutes x1 h1) Q := by
    intro h1 Q e0 Kn Ky
    have v0 : (ea_i h1 326 0).toInt = hI h 326 0 := e0
    unfold qX12_minutes BX12_minutes_0
    obtain ⟨vi, qi, si⟩ := m_isIn x1 1 3000 h1
    rw [l_1, l_3000] at si
    refine sat_call qi ?_
    rcases si with ⟨ri, si⟩ | ⟨ri, si⟩
    · exact sat_pos ri (Kn (by omega))
    refine sat_neg (by rw [ri]; exact i1_ne_0) ?_
    dsimp only
    have vs : ((10079 : Int32) - x1).toInt = 10079 - x1.toInt := by rw [n_sub, l_10079, n_bm (by omega) (by omega)]
    refine sat_eti (fun c => ?_) fun c => ?_
    · rw [n_le, v0, vs] at c
      exact Kn (by omega)
    · rw [n_le, v0, vs] at c
      exact Ky si (by omega)
  have no : ¬ ((1 ≤ x1.toInt ∧ x1.toInt ≤ 3000) ∧ hI h 326 0 + x1.toInt ≤ 10079) → sat (some ((-1 : Int32), h)) fun y => sat (qX12_minutes x1 y.2) fun z => y.1 = z.1 ∧ fq [(13, 17), (22, 22), (51, 51), (53, 61), (336, 346), (376, 377), (381, 390), (395, 395)] [((0, 0), 14, 15), ((52, 52), 10, 10), ((76, 315), 16, 17), ((326, 326), 0, 0), ((326, 326), 12, 13)] h z.2 ∧ (z.2 = h ∨ hI z.2 0 15 = 0 ∧ hI h 326 0 ≤ hI z.2 326 0 ∧ SBas z.2 n ∧ SWyC z.2 T ∧ SWyM z.2 T n ∧ ∃ X', SBg z.2 n T m X' G ∧ ∃ L p, tList T L ∧ fstB L (hI h 326 0).toNat p ∧ X' = caX T L G (hI z.2 326 0).toNat (L.drop p) (hI h 326 0).toNat X) := by
    intro hc
    exact sat_ret (ref h _ rfl (fun _ => sat_ret ⟨rfl, fq_rfl _ _ _, Or.inl rfl⟩) fun a c => absurd ⟨a, c⟩ hc)
  unfold tw qX11_minutes BX11_minutes_0
  refine sat_ite (fun c1 => ?_) fun c1 => ?_
  · simp only [n_lt, n_le, n_eq, hI_eq, l_m1000, l_m100, l_m60, l_m19, l_m18, l_m17, l_m16, l_m15, l_m14, l_m13, l_m12, l_m11, l_m10, l_m8, l_m1, l_0, l_1, l_2, l_3, l_4, l_5, l_6, l_7, l_8, l_9, l_10, l_11, l_12, l_13, l_14, l_15, l_16, l_17, l_18, l_19, l_20, l_21, l_24, l_25, l_32, l_40, l_41, l_42, l_43, l_45, l_47, l_48, l_57, l_59, l_60, l_61, l_62, l_63, l_64, l_65, l_70, l_80, l_90, l_97, l_99, l_100, l_120, l_122, l_127, l_144, l_150, l_201, l_202, l_203, l_204, l_205, l_206, l_207, l_255, l_300, l_364, l_480, l_560, l_600, l_601, l_620, l_840, l_900, l_980, l_999, l_1000, l_1023, l_1024, l_1220, l_1439, l_1440, l_2240, l_2400, l_3000, l_3600, l_4095, l_4096, l_7320, l_9999, l_10079, l_10080, l_12000, l_99999, l_120000, l_1000000, l_2147483647] at c1
    exact no (by omega)
  simp only [n_lt, n_le, n_eq, hI_eq, l_m1000, l_m100, l_m60, l_m19, l_m18, l_m17, l_m16, l_m15, l_m14, l_m13, l_m12, l_m11, l_m10, l_m8, l_m1, l_0, l_1, l_2, l_3, l_4, l_5, l_6, l_7, l_8, l_9, l_10, l_11, l_12, l_13, l_14, l_15, l_16, l_17, l_18, l_19, l_20, l_21, l_24, l_25, l_32, l_40, l_41, l_42, l_43, l_45, l_47, l_48, l_57, l_59, l_60, l_61, l_62, l_63, l_64, l_65, l_70, l_80, l_90, l_97, l_99, l_100, l_120, l_122, l_127, l_144, l_150, l_201, l_202, l_203, l_204, l_205, l_206, l_207, l_255, l_300, l_364, l_480, l_560, l_600, l_601, l_620, l_840, l_900, l_980, l_999, l_1000, l_1023, l_1024, l_1220, l_1439, l_1440, l_2240, l_2400, l_3000, l_3600, l_4095, l_4096, l_7320, l_9999, l_10079, l_10080, l_12000, l_99999, l_120000, l_1000000, l_2147483647] at c1
  refine sat_ite (fun c2 => ?_) fun c2 => ?_
  · simp only [n_lt, n_le, n_eq, hI_eq, l_m1000, l_m100, l_m60, l_m19, l_m18, l_m17, l_m16, l_m15, l_m14, l_m13, l_m12, l_m11, l_m10, l_m8, l_m1, l_0, l_1, l_2, l_3, l_4, l_5, l_6, l_7, l_8, l_9, l_10, l_11, l_12, l_13, l_14, l_15, l_16, l_17, l_18, l_19, l_20, l_21, l_24, l_25, l_32, l_40, l_41, l_42, l_43, l_45, l_47, l_48, l_57, l_59, l_60, l_61, l_62, l_63, l_64, l_65, l_70, l_80, l_90, l_97, l_99, l_100, l_120, l_122, l_127, l_144, l_150, l_201, l_202, l_203, l_204, l_205, l_206, l_207, l_255, l_300, l_364, l_480, l_560, l_600, l_601, l_620, l_840, l_900, l_980, l_999, l_1000, l_1023, l_1024, l_1220, l_1439, l_1440, l_2240, l_2400, l_3000, l_3600, l_4095, l_4096, l_7320, l_9999, l_10079, l_10080, l_12000, l_99999, l_120000, l_1000000, l_2147483647] at c2
    exact no (by omega)
  simp only [n_lt, n_le, n_eq, hI_eq, l_m1000, l_m100, l_m60, l_m19, l_m18, l_m17, l_m16, l_m15, l_m14, l_m13, l_m12, l_m11, l_m10, l_m8, l_m1, l_0, l_1, l_2, l_3, l_4, l_5, l_6, l_7, l_8, l_9, l_10, l_11, l_12, l_13, l_14, l_15, l_16, l_17, l_18, l_19, l_20, l_21, l_24, l_25, l_32, l_40, l_41, l_42, l_43, l_45, l_47, l_48, l_57, l_59, l_60, l_61, l_62, l_63, l_64, l_65, l_70, l_80, l_90, l_97, l_99, l_100, l_120, l_122, l_127, l_144, l_150, l_201, l_202, l_203, l_204, l_205, l_206, l_207, l_255, l_300, l_364, l_480, l_560, l_600, l_601, l_620, l_840, l_900, l_980, l_999, l_1000, l_1023, l_1024, l_1220, l_1439, l_1440, l_2240, l_2400, l_3000, l_3600, l_4095, l_4096, l_7320, l_9999, l_10079, l_10080, l_12000, l_99999, l_120000, l_1000000, l_2147483647] at c2
  have v14 : (ea_i h 0 14).toInt = hI h 326 0 := b1
  have vsum : (ea_i h 0 14 + x1).toInt = hI h 326 0 + x1.toInt := by rw [n_add, v14, n_bm (by omega) (by omega)]
  refine sat_eti (fun c3 => ?_) fun c3 => ?_
  · rw [n_le, vsum, l_10079] at c3
    exact no (by omega)
  rw [n_le, vsum, l_10079] at c3
  have hbg : hI h 326 0 = ((hI h 326 0).toNat : Int) := by omega
  have hup : hI h 326 0 + x1.toInt = ((hI h 326 0 + x1.toInt).toNat : Int) := by omega
  generalize hbgN : (hI h 326 0).toNat = bg at *
  generalize hupN : (hI h 326 0 + x1.toInt).toNat = up at *
  refine sat_let fun H1 q1 => ?_
  have f1 : fq [] [((0, 0), 15, 15)] h H1 := q1 ▸ fq_wf rfl
  have hs1 : ShC H1 := ShC_core f1.1 hs
  refine sat_bind (c_refresh ok hs1 (cC.kq (f1.kq rfl)) (SWyC.kq (f1.kq rfl) wc)) fun w2 hw2 => ?_
  obtain ⟨r1, r2, r3⟩ := hw2
  have wc2 := r3
  obtain ⟨L2, l1, l2, l3, l4⟩ := r3
  have hLL := t_uniq l1 hL
  subst hLL
  have f2 : fq [(13, 17)] [((0, 0), 15, 15)] h w2.2 := (f1.up rfl rfl).tr (r1.up rfl)
  have g2 : gCx T L2 G w2.2 := ⟨ShC_core r1.1 hs1, cC.kq (f2.kq rfl), gc.kq (f2.kq rfl), ⟨l2, l3⟩, l4⟩
  have rc2 : RC52 m X w2.2 := by
    obtain ⟨a0, a2, a3, a4, a5, a6, a7⟩ := rc
    refine ⟨by rw [f2.C 52 rfl rfl]; exact a0, fun l hl => ?_, fun r hr => by rw [f2.C 58 rfl rfl]; exact a3 r hr, fun a ha => by rw [f2.C 60 rfl rfl]; exact a4 a ha, fun r hr => by rw [f2.C 61 rfl rfl]; exact a5 r hr, by rw [f2.C 52 rfl rfl]; exact a6, fun k => or01 (f2.C 57 rfl rfl k) (a7 k)⟩
    rw [f2.C 53 rfl rfl, f2.C 54 rfl rfl, f2.C 55 rfl rfl, f2.C 56 rfl rfl, f2.C 57 rfl rfl, f2.C 59 rfl rfl]
    exact a2 l hl
  have lt2 : ∀ l k, l < 120 → hI w2.2 (76 + 2 * l) k = hI h (76 + 2 * l) k := fun l k hl => f2.C (76 + 2 * l) (inB_no (by omega)) (outP_no (by omega) (by decide)) k
  have rn2 : RN m X w2.2 := by
    refine ⟨fun l hl => ?_, fun l hl hl2 => ?_⟩
    · rw [lt2 l 16 (by omega), lt2 l 17 (by omega)]
      exact rn.1 l hl
    · obtain ⟨u1, u2, u3⟩ := rn.2 l hl hl2
      rw [lt2 l 16 (by omega), f2.C 56 rfl rfl]
      exact ⟨u1, u2, fun c => (mkB_fq f2 rfl c l).trans (u3 c)⟩
  have e14 : (ea_i w2.2 0 14).toInt = bg := (f2.I 0 rfl 14 rfl).trans (b1.trans hbg)
  have esum : (ea_i w2.2 0 14 + x1).toInt = up := by
    rw [n_add, e14, n_bm (by omega) (by omega)]
    omega
  have hp980 := hp.1
  have H := c_carry52 (T := T) (L := L2) (G := G) (m := m) (bg := bg) (up := up) (p := p) (b := 2 + (p : Int)) (I := fun e hh Y => XOk T m (fun _ => 2 + (e : Int)) Y ∧ e ≤ L2.length ∧ ∀ l, l < m → Ld1 T L2 G (fun l => hI h (76 + 2 * l) 6) (fun l => hI h (76 + 2 * l) 1) (fun c => mkB hh c l) e Y l) ok hL hG (by omega) (by omega) hp e14 esum (by omega) hX g2 rc2 rn2
    (fun e day Y h1 h2 hd hd6 hI1 hf => by
      obtain ⟨i1, i2, i3⟩ := hI1
      have x7 := XOk_7 (by omega) i1
      refine ⟨brF_ok hd6 i1 m, i2, fun l hl => ?_⟩
      have hmk : (fun c => mkB h2 c l) = fun c => mkB h1 c l := funext fun c => mkB_fq hf rfl c l
      rw [hmk]
      refine ld_br hd (x7 l hl) ?_ (brF_rw x7 m (Nat.le_refl _) l hl).2 (i3 l hl)
      have w := (i1 l hl).2.2.2.2.1
      dsimp only at w
      split at w <;> omega)
    (fun e Y h1 h2 he hb1 hb2 hI1 hf hmk => by
      obtain ⟨i1, i2, i3⟩ := hI1
      have x7 := XOk_7 (by omega) i1
      refine ⟨fun l hl => ?_, he, fun l hl => ?_⟩
      · have := evX_ok ok hL (getD_mem he) hG i1 l hl
        dsimp only at this ⊢
        exact XL_up (by omega) this
      · have q := (hld l hl).2.2
        have w := (i1 l hl).2.2.2.2.1
        dsimp only at w
        exact ld_ev ok hL he (by omega) (x7 l hl) (i1 l hl).1.1 (by split at w <;> omega) (evX_rw hG x7 hl) (fun c => hmk c l hl) (i3 l hl))
    ⟨hX, hp980, fun l hl => by
      have hmk : (fun c => mkB w2.2 c l) = fun c => mkB h c l := funext fun c => mkB_fq f2 rfl c l
      rw [hmk]
      exact (hld l hl).1⟩
  refine sat_bind H fun w3 hw3 => ?_
  obtain ⟨f3, g3, rc3, rn3, q, ⟨hXq, hq1, hldq⟩, -, hqup, -⟩ := hw3
  generalize hX' : caX T L2 G up (L2.drop p) bg X = X' at *
  refine sat_let fun H4 q4 => sat_ret ?_
  have f34 : fq [(13, 17), (22, 22), (51, 51), (53, 61)] [((0, 0), 14, 15), ((52, 52), 10, 10), ((76, 315), 16, 17)] h H4 := (f2.up rfl rfl).tr ((f3.up rfl rfl).tr (q4 ▸ fq_wf rfl))
  have f4 : fq [] [((0, 0), 14, 14)] w3.2 H4 := q4 ▸ fq_wf rfl
  have v4 : hI H4 0 14 = up := by
    have e : (ea_i w3.2 0 14).toInt = bg := (f3.I 0 rfl 14 rfl).trans e14
    rw [q4, hI_at, n_add, e, n_bm (by omega) (by omega)]
    omega
  have hq : hiq h H4 := f34.hiq rfl
  have e0 : hI H4 326 0 = hI h 326 0 := hq 326 0 (by decide)
  show sat (qX12_minutes x1 H4) _
  refine ref H4 _ e0 (fun z => absurd ⟨⟨by omega, by omega⟩, by omega⟩ z) fun _ _ => ?_
  have u0 : (ea_i H4 326 0).toInt = bg := e0.trans hbg
  have usum : (ea_i H4 326 0 + x1).toInt = up := by
    rw [n_add, u0, n_bm (by omega) (by omega)]
    omega
  have df4 : DFm m (fun _ => (bg : Int) / 1440) X H4 := DFm.hi hq (by rw [← hbg]; exact df)
  refine sat_bind (m_leadsOn ok hL hG (bg := bg) (up := up) (p := p) (by omega) (by omega) hp u0 usum (b := 2 + (p : Int)) (by omega) hX (GM.hi hq gm) (MTab.hi hq cM) b6 ((hq 326 1 (by decide)).trans b5) (SWyM.hi b6 hq wm) (RM0.hi hq rm) df4) fun w5 hw5 => ?_
  obtain ⟨f5, g5, rm5, df5⟩ := hw5
  rw [hX'] at rm5 df5
  refine sat_let fun H6 q6 => sat_ret ?_
  have f6 : fq [] [((326, 326), 0, 0)] w5.2 H6 := q6 ▸ fq_wf rfl
  have f56 : fq [(336, 346), (376, 377), (381, 390), (395, 395)] [((326, 326), 0, 0), ((326, 326), 12, 13)] H4 H6 := (f5.up rfl rfl).tr (f6.up rfl rfl)
  have hl56 : loq H4 H6 := f56.loq rfl
  have v6 : hI H6 326 0 = up := by
    have e : (ea_i w5.2 326 0).toInt = bg := (f5.I 326 rfl 0 rfl).trans u0
    rw [q6, hI_at, n_add, e, n_bm (by omega) (by omega)]
    omega
  have F : fq [(13, 17), (22, 22), (51, 51), (53, 61), (336, 346), (376, 377), (381, 390), (395, 395)] [((0, 0), 14, 15), ((52, 52), 10, 10), ((76, 315), 16, 17), ((326, 326), 0, 0), ((326, 326), 12, 13)] h H6 := (f34.up rfl rfl).tr (f56.up rfl rfl)
  obtain ⟨p2, hp2⟩ := fstB_ex hw up
  have hqp : q ≤ p2 := by
    apply Nat.not_lt.mp
    intro z
    have := (hp2.2 p2 (by omega)).mpr (hqup p2 z)
    omega
  have r14 : hI H6 0 14 = up := (hl56.1 0 14 (by decide)).trans v4
  have ltr : ∀ l k, l < 120 → (k = 6 ∨ k = 1) → hI H6 (76 + 2 * l) k = hI h (76 + 2 * l) k := by
    intro l k hl hk
    refine F.I (76 + 2 * l) ?_ k ?_
    · rw [Bool.eq_false_iff]
      intro z
      obtain ⟨q, q1, q2, q3⟩ := inB_iff.mp z
      simp at q1
      rcases q1 with rfl | rfl | rfl | rfl | rfl | rfl | rfl | rfl <;> dsimp only at q2 q3 <;> omega
    · rw [Bool.eq_false_iff]
      intro z
      obtain ⟨q, q1, q2, q3⟩ := inP_iff.mp z
      simp at q1
      rcases q1 with rfl | rfl | rfl | rfl | rfl <;> dsimp only at q2 q3 <;> omega
  refine ⟨n_eq.mpr (v4.trans v6.symm), F, Or.inr ⟨?_, (by show hI h 326 0 ≤ hI H6 326 0; omega), ⟨r14.trans v6.symm, (by show 0 ≤ hI H6 326 0; omega), (by show hI H6 326 0 ≤ 10079; omega), (F.C 1 rfl rfl 0).trans b4, (F.I 326 rfl 1 rfl).trans b5, b6⟩, ?_, ?_, X', ⟨hG, ?_, ?_, ?_, ?_, ?_, ?_, L2, p2, hL, ?_, ?_, fun l hl => ?_⟩, L2, p, hL, hp, ?_⟩⟩
  · show hI H6 0 15 = 0
    rw [hl56.1 0 15 (by decide), q4, hI_nk (by decide), f3.I 0 rfl 15 rfl, (r1.I 0 rfl 15 : hI w2.2 0 15 = hI H1 0 15), q1, hI_at]
    rfl
  · refine SWyC.lo hl56 (SWyC.kq (f4.kq rfl) (SWyC.kq (f3.kq rfl) (Or.inr ⟨r2, wc2⟩)))
  · obtain ⟨gx, k1, k2, k3, k4⟩ := g5
    refine SWyM.kq b6 (f6.kq rfl) (Or.inr ⟨k1, fun L3 hL3 => ?_⟩)
    rw [t_uniq hL3 hL]
    exact k4
  · exact GC.lo hl56 (g3.2.2.1.kq (f4.kq rfl))
  · exact GM.kq (f6.kq rfl) g5.1.2.2
  · exact RC52.lo hl56 (by
      obtain ⟨a0, a2, a3, a4, a5, a6, a7⟩ := rc3
      refine ⟨by rw [f4.C 52 rfl rfl]; exact a0, fun l hl => ?_, fun r hr => by rw [f4.C 58 rfl rfl]; exact a3 r hr, fun a ha => by rw [f4.C 60 rfl rfl]; exact a4 a ha, fun r hr => by rw [f4.C 61 rfl rfl]; exact a5 r hr, by rw [f4.C 52 rfl rfl]; exact a6, fun k => or01 (f4.C 57 rfl rfl k) (a7 k)⟩
      rw [f4.C 53 rfl rfl, f4.C 54 rfl rfl, f4.C 55 rfl rfl, f4.C 56 rfl rfl, f4.C 57 rfl rfl, f4.C 59 rfl rfl]
      exact a2 l hl)
  · refine RN.lo hm hl56 ⟨fun l hl => ?_, fun l hl hl2 => ?_⟩
    · rw [f4.C (76 + 2 * l) rfl (outP_no (by omega) (by decide)), f4.C (76 + 2 * l) rfl (outP_no (by omega) (by decide))]
      exact rn3.1 l hl
    · obtain ⟨u1, u2, u3⟩ := rn3.2 l hl hl2
      rw [f4.C (76 + 2 * l) rfl (outP_no (by omega) (by decide)), f4.C 56 rfl rfl]
      exact ⟨u1, u2, fun c => (mkB_fq f4 rfl c l).trans (u3 c)⟩
  · obtain ⟨⟨p0, p1⟩, p2, p3, p4, p5⟩ := rm5
    refine ⟨⟨(f6.I 326 rfl 63 rfl).trans p0, p1⟩, fun k => ?_, fun l' hl2 hz => (f6.C 387 rfl rfl l').trans (p3 l' hl2 hz), fun t d ht hd => (f6.C 386 rfl rfl _).trans (p4 t d ht hd), fun k => or01 (f6.C 387 rfl rfl k) (p5 k)⟩
    show hI H6 381 k = _ ∧ hI H6 382 k = _ ∧ hI H6 383 k = _ ∧ hI H6 384 k = _ ∧ hI H6 385 k = _ ∧ hI H6 376 k = _ ∧ hI H6 388 k = _ ∧ hI H6 389 k = _ ∧ hI H6 390 k = _
    rw [f6.C 381 rfl rfl, f6.C 382 rfl rfl, f6.C 383 rfl rfl, f6.C 384 rfl rfl, f6.C 385 rfl rfl, f6.C 376 rfl rfl, f6.C 388 rfl rfl, f6.C 389 rfl rfl, f6.C 390 rfl rfl]
    exact p2 k
  · intro l hl hz
    show hI H6 377 l = hI H6 326 0 / 1440 - X' 5 l / 1440
    rw [f6.C 377 rfl rfl, v6]
    exact df5 l hl hz
  · show fstB L2 (hI H6 326 0).toNat p2
    rw [v6]
    exact hp2
  · exact fun l hl => XL_up (by dsimp only; omega) (hXq l hl)
  · have hld1 := ld_more ok hL (hldq l hl) (p2 - q) (by have := hp2.1; omega)
    rw [show q + (p2 - q) = p2 by omega] at hld1
    have hmk : (fun c => mkB H6 c l) = fun c => mkB w3.2 c l := funext fun c => (mkB_lo hl56 c l).trans (mkB_fq f4 rfl c l)
    obtain ⟨-, p6, p7⟩ := hld l hl
    show Ld1 T L2 G (fun l => hI H6 (76 + 2 * l) 6) (fun l => hI H6 (76 + 2 * l) 1) (fun c => mkB H6 c l) p2 X' l ∧ 0 ≤ hI H6 (76 + 2 * l) 6 ∧ hI H6 (76 + 2 * l) 6 ≤ hI H6 326 0
    rw [hmk, ltr l 6 (by omega) (Or.inl rfl), v6]
    refine ⟨?_, p6, by omega⟩
    exact Ld1_cg (ltr l 6 (by omega) (Or.inl rfl)) (ltr l 1 (by omega) (Or.inr rfl)) hld1
  · show X' = caX T L2 G (hI H6 326 0).toNat (L2.drop p) bg X
    rw [v6]
    exact hX'.symm
