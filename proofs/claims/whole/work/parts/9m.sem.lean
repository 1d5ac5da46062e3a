/-! what stays in the parts of the state; the letters' part told anew; the call nobody -/
theorem keq.sub {W W2 : List (Nat × Nat)} {V V2 : List ((Nat × Nat) × Nat × Nat)} {h h' : ea_H} (s : keq W V h h') (w : (W2.all fun q => W.any fun r => cov r q) = true) (w2 : (V2.all fun q => (W.any fun r => cov r q.1) || V.any fun r => cov r.1 q.1 && cov r.2 q.2) = true) : keq W2 V2 h h' := by
  have hW : ∀ a, inB W2 a = true → inB W a = true := fun a ha => by
    cases z : inB W a with
    | true => rfl
    | false =>
      rw [inB_sub w a z] at ha
      cases ha
  refine ⟨s.1, fun a k hk => ?_, fun a ha k => s.2.2 a (hW a ha) k⟩
  rcases hk with hk | hk
  · exact s.2.1 a k (Or.inl (hW a hk))
  · cases z : inB W a with
    | true => exact s.2.1 a k (Or.inl z)
    | false =>
      cases z2 : inP V a k with
      | true => exact s.2.1 a k (Or.inr z2)
      | false =>
        rw [inP_sub w2 a k z z2] at hk
        cases hk
section NB
variable {T : Nat → Nat → Nat → Nat} {m : Nat} {X G : Nat → Nat → Int} {h h' : ea_H}
theorem RC52.kq (s : keq [(53, 61)] [((52, 52), 0, 0), ((52, 52), 10, 10)] h h') (r : RC52 m X h) : RC52 m X h' := by
  obtain ⟨a0, a2, a3, a4, a5, a6, a7⟩ := r
  refine ⟨by rw [s.V 52 0 rfl]; exact a0, fun l hl => ?_, fun r hr => (s.W 58 rfl r).trans (a3 r hr), fun a ha => (s.W 60 rfl a).trans (a4 a ha), fun r hr => (s.W 61 rfl r).trans (a5 r hr), (s.V 52 10 rfl).trans a6, fun k => or01 (s.W 57 rfl k) (a7 k)⟩
  rw [s.W 53 rfl, s.W 54 rfl, s.W 55 rfl, s.W 56 rfl, s.W 57 rfl, s.W 59 rfl]
  exact a2 l hl
theorem lt_in (l k a b : Nat) (hl : l < 120) (ha : a ≤ k) (hb : k ≤ b) {V : List ((Nat × Nat) × Nat × Nat)} (hV : ((76, 315), a, b) ∈ V) : inP V (76 + 2 * l) k = true := inP_at (r := ((76, 315), a, b)) hV (by show 76 ≤ 76 + 2 * l; omega) (by show 76 + 2 * l ≤ 315; omega) ha hb
theorem RM0.kq (s : keq [(376, 376), (381, 390)] [((326, 326), 63, 63)] h h') (r : RM0 m X h) : RM0 m X h' := by
  obtain ⟨⟨p0, p1⟩, p2, p3, p4, p5⟩ := r
  refine ⟨⟨(s.V 326 63 rfl).trans p0, p1⟩, fun k => ?_, fun l hl hz => (s.W 387 rfl l).trans (p3 l hl hz), fun t d ht hd => (s.W 386 rfl _).trans (p4 t d ht hd), fun k => or01 (s.W 387 rfl k) (p5 k)⟩
  rw [s.W 381 rfl, s.W 382 rfl, s.W 383 rfl, s.W 384 rfl, s.W 385 rfl, s.W 376 rfl, s.W 388 rfl, s.W 389 rfl, s.W 390 rfl]
  exact p2 k
theorem mkB_kq (s : keq [(51, 51)] [] h h') (c l : Nat) : mkB h' c l = mkB h c l := by
  unfold mkB
  have : ea_j h' 51 (2 * c + l / 64) = ea_j h 51 (2 * c + l / 64) := n_eqJ.mpr (s.2.2 51 rfl _)
  rw [this]
/-- the letters' fields ks stay -/
def ltE (ks : List Nat) (h h' : ea_H) : Prop := ∀ l k, l < 120 → k ∈ ks → hI h' (76 + 2 * l) k = hI h (76 + 2 * l) k
theorem keq.lt {W : List (Nat × Nat)} {V : List ((Nat × Nat) × Nat × Nat)} {ks : List Nat} (s : keq W V h h') (w : (ks.all fun k => V.any fun r => cov r.1 (76, 315) && cov r.2 (k, k)) = true) : ltE ks h h' := fun l k hl hk => by
  obtain ⟨r, r1, r2⟩ := List.any_eq_true.mp (List.all_eq_true.mp w k hk)
  rw [Bool.and_eq_true] at r2
  have c1 := cov_iff r2.1
  have c2 := cov_iff r2.2
  dsimp only at c1 c2
  exact s.V _ _ (inP_at r1 (by omega) (by omega) c2.1 c2.2)
theorem ltE.sub {ks ks2 : List Nat} (e : ltE ks h h') (w : (ks2.all fun k => decide (k ∈ ks)) = true) : ltE ks2 h h' := fun l k hl hk => e l k hl (of_decide_eq_true (List.all_eq_true.mp w k hk))
theorem RN.lq (hm : m ≤ 120) (s : keq [(51, 51), (56, 56)] [] h h') (e : ltE [16, 17] h h') (r : RN m X h) : RN m X h' := by
  have e16 : ∀ l, l < 120 → hI h' (76 + 2 * l) 16 = hI h (76 + 2 * l) 16 := fun l hl => e l 16 hl (by decide)
  refine ⟨fun l hl => ?_, fun l hl hl2 => ?_⟩
  · rw [e16 l (by omega), e l 17 (by omega) (by decide)]
    exact r.1 l hl
  · obtain ⟨u1, u2, u3⟩ := r.2 l hl hl2
    rw [e16 l hl2, s.W 56 rfl]
    exact ⟨u1, u2, fun c => (mkB_kq (s.sub rfl rfl) c l).trans (u3 c)⟩
theorem GC.lq (s : keq [(12, 12), (19, 21)] [((18, 18), 0, 0)] h h') (e : ltE [2, 14, 15] h h') (c : GC G h) : GC G h' := by
  obtain ⟨m, k, ⟨a1, a2, a3, a4, a5⟩, b, c, d⟩ := c
  refine ⟨m, k, ⟨a1, a2, a3, a4, (s.V 18 0 rfl).trans a5⟩, fun l hl => ?_, fun r hr => ?_, fun q hq => ?_⟩
  · rw [e l 2 (by omega) (by decide), e l 14 (by omega) (by decide), e l 15 (by omega) (by decide)]
    exact b l hl
  · obtain ⟨M, m1, m2⟩ := c r hr
    exact ⟨M, (s.W 12 rfl r).trans m1, m2⟩
  · rw [s.W 19 rfl, s.W 20 rfl, s.W 21 rfl]
    exact d q hq
def W_Bg : List (Nat × Nat) := [(51, 51), (53, 61), (376, 377), (381, 390)]
def V_Bg : List ((Nat × Nat) × Nat × Nat) := [((52, 52), 0, 0), ((52, 52), 10, 10), ((326, 326), 0, 0), ((326, 326), 63, 63)]
theorem SBg.re {n n' : Nat} {G' : Nat → Nat → Int} (s : keq W_Bg V_Bg h h') (le : ltE [1, 6, 16, 17] h h') (e7 : G' 7 0 = G 7 0) (gc : GC G' h') (gm : GM n' G' h') (ld : ∀ L p pf fr M l, l < m → Ld1 T L G pf fr M p X l → Ld1 T L G' pf fr M p X l) (sb : SBg h n T m X G) : SBg h' n' T m X G' := by
  obtain ⟨hG, -, -, rc, rn, rm, df, L, p, hL, hp, hX, hld⟩ := sb
  have e0 : hI h' 326 0 = hI h 326 0 := s.V 326 0 rfl
  refine ⟨e7.trans hG, gc, gm, rc.kq (s.sub rfl rfl), rn.lq rc.1.2 (s.sub rfl rfl) (le.sub rfl), rm.kq (s.sub rfl rfl), fun l hl hz => ?_, L, p, hL, by rw [e0]; exact hp, hX, fun l hl => ?_⟩
  · rw [s.W 377 rfl, e0]
    exact df l hl hz
  · have hm := rc.1.2
    obtain ⟨d1, d2, d3⟩ := hld l hl
    have e6 : hI h' (76 + 2 * l) 6 = hI h (76 + 2 * l) 6 := le l 6 (by omega) (by decide)
    have e1 : hI h' (76 + 2 * l) 1 = hI h (76 + 2 * l) 1 := le l 1 (by omega) (by decide)
    have hmk : (fun c => mkB h' c l) = fun c => mkB h c l := funext fun c => mkB_kq (s.sub rfl rfl) c l
    rw [hmk, e6, e0]
    exact ⟨Ld1_cg e6 e1 (ld L p _ _ _ l hl d1), d2, d3⟩
theorem SBg.kq {n : Nat} (s : keq W_Bg V_Bg h h') (le : ltE [1, 6, 16, 17] h h') (gc : GC G h') (gm : GM n G h') (sb : SBg h n T m X G) : SBg h' n T m X G := SBg.re s le rfl gc gm (fun _ _ _ _ _ _ _ d => d) sb
/-- letters not yet posted, as both have them -/
def SNw (h : ea_H) (m : Nat) (X : Nat → Nat → Int) : Prop := ∀ l, m ≤ l → l < 120 → (hI h (76 + 2 * l) 10 = 0 ∧ hI h (76 + 2 * l) 11 = -1 ∧ hI h (76 + 2 * l) 12 = -1 ∧ hI h (76 + 2 * l) 13 = 0 ∧ hI h (76 + 2 * l) 14 = 3 ∧ hI h (76 + 2 * l) 15 = 0 ∧ hI h (76 + 2 * l) 18 = 0) ∧ hI h 380 l = 0 ∧ hI h 396 l = 0 ∧ X 3 l = 0 ∧ X 7 l = 0
theorem SNw.lq (s : keq [(380, 380), (396, 396)] [] h h') (e : ltE [10, 11, 12, 13, 14, 15, 18] h h') (c : SNw h m X) : SNw h' m X := fun l hl hl2 => by
  rw [e l 10 hl2 (by decide), e l 11 hl2 (by decide), e l 12 hl2 (by decide), e l 13 hl2 (by decide), e l 14 hl2 (by decide), e l 15 hl2 (by decide), e l 18 hl2 (by decide), s.W 380 rfl, s.W 396 rfl]
  exact c l hl hl2
theorem call_nobody {n : Nat} (hs : ShC h) (sb : SBg h n T m X G) (nw : SNw h m X) (x1 : Int32) : tw (qX11_nobody x1 h) (qX12_nobody x1) fun h' => fq [(380, 380)] [((0, 0), 15, 15), ((76, 315), 15, 15)] h h' ∧ (h' = h ∨ hI h' 0 15 = 0 ∧ SNw h' m X ∧ ∃ G', SBg h' n T m X G') := by
  have sb0 := sb
  obtain ⟨hG, gc, gm, rc, rn, rm, df, L, p, hL, hp, hX, hld⟩ := sb
  have rm0 := rm.1.1
  have hm := rm.1.2
  rcases c_letterOf x1 hs rc.1.1 rc.1.2 with ⟨pl, np⟩ | ⟨l, e1, hl, pl⟩
  · unfold tw qX11_nobody BX11_nobody_0
    refine sat_call pl (sat_pos rfl (sat_ret ?_))
    show sat (qX12_nobody x1 h) _
    unfold qX12_nobody BX12_nobody_0
    obtain ⟨v1, q1, s1⟩ := m_isLetterOf x1 (h := h) (by omega)
    refine sat_call q1 ?_
    rcases s1 with ⟨r1, s1⟩ | ⟨r1, s1⟩
    · exact sat_pos r1 (sat_ret ⟨rfl, fq_rfl _ _ _, Or.inl rfl⟩)
    refine sat_neg (by rw [r1]; exact i1_ne_0) ?_
    dsimp only
    exact absurd s1 (by omega)
  have hl' : l < 120 := by omega
  obtain ⟨k1, k2⟩ := ltr_ref hs hl'
  have g1 := vp80 e1 hl'
  have ic : x1.toNatClampNeg = l := by
    rw [n_idx, e1]
    rfl
  obtain ⟨m2, s2, ⟨a1, a2, a3, a4, a5⟩, ab, ac, ad⟩ := gc
  obtain ⟨m3, s3, ⟨b1, b2, b3, b4, b5, b6⟩, bb, bc, bd⟩ := gm
  have hm2 : m = m2 := by omega
  have hm3 : m = m3 := by omega
  subst hm2
  subst hm3
  have v15 : (ea_i h (76 + 2 * l) 15).toInt = G 1 l := (ab l hl).2.1
  have v53 : (ea_i h 53 l).toInt = X 0 l := (rc.2.1 l hl).1
  have ref : ∀ (h1 : ea_H) (Q : Int32 × ea_H → Prop), hiq h h1 → (¬ (G 1 l = 0 ∧ X 0 l ≤ 1) → Q (0, h1)) → ((G 1 l = 0 ∧ X 0 l ≤ 1) → Q (1, ea_wi h1 380 l 1)) → sat (qX12_nobody x1 h1) Q := by
    intro h1 Q hq hno hyes
    have r0 : hI h1 326 63 = hI h 326 63 := hq 326 63 (by decide)
    have v380 : (ea_i h1 380 l).toInt = G 1 l := (hq 380 l (by decide)).trans (bb l hl).2.1
    have v381 : (ea_i h1 381 l).toInt = X 0 l := (hq 381 l (by decide)).trans (rm.2.1 l).1
    unfold qX12_nobody BX12_nobody_0
    obtain ⟨v1, q1, s1⟩ := m_isLetterOf x1 (h := h1) (by omega)
    refine sat_call q1 ?_
    rcases s1 with ⟨r1, s1⟩ | ⟨r1, s1⟩
    · exact sat_pos r1 (absurd s1 (by omega))
    refine sat_neg (by rw [r1]; exact i1_ne_0) ?_
    dsimp only
    rw [ic]
    refine sat_gd g1 (sat_ite (fun c => ?_) fun c => ?_)
    · rw [n_eq, v380, l_0] at c
      refine sat_gd g1 (sat_ite (fun d => ?_) fun d => ?_)
      · rw [n_le, v381, l_1] at d
        exact sat_gd g1 (sat_let fun H5 q5 => sat_ret (by rw [q5]; exact hyes ⟨c, d⟩))
      · rw [n_le, v381, l_1] at d
        exact sat_ret (hno fun z => d z.2)
    · rw [n_eq, v380, l_0] at c
      exact sat_ret (hno fun z => c z.1)
  have no : ¬ (G 1 l = 0 ∧ X 0 l ≤ 1) → sat (some ((0 : Int32), h)) fun y => sat (qX12_nobody x1 y.2) fun z => y.1 = z.1 ∧ fq [(380, 380)] [((0, 0), 15, 15), ((76, 315), 15, 15)] h z.2 ∧ (z.2 = h ∨ hI z.2 0 15 = 0 ∧ SNw z.2 m X ∧ ∃ G', SBg z.2 n T m X G') := fun hn => sat_ret (ref h _ (fun _ _ _ => rfl) (fun _ => ⟨rfl, fq_rfl _ _ _, Or.inl rfl⟩) fun z => absurd z hn)
  unfold tw qX11_nobody BX11_nobody_0
  rw [ic]
  refine sat_call pl (sat_neg (by simp) (sat_gd rfl (sat_gd k2 (sat_ite (fun c => ?_) fun c => ?_))))
  · have c : ea_i h (76 + 2 * l) 15 = 0 := c
    rw [n_eq, v15, l_0] at c
    refine sat_gd g1 (sat_ite (fun d => ?_) fun d => ?_)
    · have d : ea_i h 53 l ≤ 1 := d
      rw [n_le, v53, l_1] at d
      refine sat_gd rfl (sat_gd k2 (sat_let fun H7 q7 => sat_let fun H8 q8 => sat_ret ?_))
      have q7 : H7 = ea_wi h (76 + 2 * l) 15 1 := q7
      have f7 : fq [] [((0, 0), 15, 15), ((76, 315), 15, 15)] h H7 := q7 ▸ fq_wf (lt_in l 15 15 15 hl' (by decide) (by decide) (by simp))
      have f8 : fq [] [((0, 0), 15, 15), ((76, 315), 15, 15)] H7 H8 := q8 ▸ fq_wf rfl
      have f := f7.tr f8
      refine ref H8 _ (f.hiq rfl) (fun z => absurd ⟨c, d⟩ z) fun _ => ?_
      have f9 : fq [(380, 380)] [((0, 0), 15, 15), ((76, 315), 15, 15)] H8 (ea_wi H8 380 l 1) := fq_wi rfl
      have F : fq [(380, 380)] [((0, 0), 15, 15), ((76, 315), 15, 15)] h (ea_wi H8 380 l 1) := (f.up rfl rfl).tr f9
      have e15 : ∀ j, j < 120 → hI (ea_wi H8 380 l 1) (76 + 2 * j) 15 = if j = l then 1 else hI h (76 + 2 * j) 15 := by
        intro j hj
        rw [hI_ne (by omega), q8, hI_ne (by omega), q7]
        by_cases z : j = l
        · rw [z, hI_at, if_pos rfl]
          rfl
        · rw [if_neg z, hI_ne (by omega)]
      have e380 : ∀ j, hI (ea_wi H8 380 l 1) 380 j = if j = l then 1 else hI h 380 j := by
        intro j
        rw [hI_row, f.C 380 rfl rfl]
        rfl
      have eF : ∀ j k, j < 120 → k ≠ 15 → hI (ea_wi H8 380 l 1) (76 + 2 * j) k = hI h (76 + 2 * j) k := by
        intro j k hj hk
        rw [hI_ne (by omega), q8, hI_ne (by omega), q7, hI_nk hk]
      refine ⟨rfl, F, Or.inr ⟨?_, fun j hj hj2 => ?_, upX G 1 l 1, SBg.re (F.kq rfl) (keq.lt (F.kq rfl : keq [] [((76, 315), 0, 14), ((76, 315), 16, 18)] h _) rfl) (upX_ne (by decide)) ?_ ?_ (fun L p pf fr M l' hl2 hd => Ld1_nb ((Classical.em (l' = l)).elim (fun z => Or.inr (by rw [z]; exact d)) Or.inl) hd) sb0⟩⟩
      · show hI (ea_wi H8 380 l 1) 0 15 = 0
        rw [hI_ne (by decide), q8, hI_at]
        rfl
      · have z : j ≠ l := by omega
        show (hI (ea_wi H8 380 l 1) (76 + 2 * j) 10 = 0 ∧ hI (ea_wi H8 380 l 1) (76 + 2 * j) 11 = -1 ∧ hI (ea_wi H8 380 l 1) (76 + 2 * j) 12 = -1 ∧ hI (ea_wi H8 380 l 1) (76 + 2 * j) 13 = 0 ∧ hI (ea_wi H8 380 l 1) (76 + 2 * j) 14 = 3 ∧ hI (ea_wi H8 380 l 1) (76 + 2 * j) 15 = 0 ∧ hI (ea_wi H8 380 l 1) (76 + 2 * j) 18 = 0) ∧ hI (ea_wi H8 380 l 1) 380 j = 0 ∧ hI (ea_wi H8 380 l 1) 396 j = 0 ∧ X 3 j = 0 ∧ X 7 j = 0
        rw [eF j 10 hj2 (by decide), eF j 11 hj2 (by decide), eF j 12 hj2 (by decide), eF j 13 hj2 (by decide), eF j 14 hj2 (by decide), e15 j hj2, eF j 18 hj2 (by decide), e380 j, if_neg z, if_neg z, F.C 396 rfl rfl]
        exact nw j hj hj2
      · refine ⟨m, s2, ⟨(upX_ne (by decide)).trans a1, (upX_ne (by decide)).trans a2, a3, a4, (F.C 18 rfl rfl 0).trans a5⟩, fun j hj => ?_, fun r hr => ?_, fun k hk => ?_⟩
        · rw [eF j 2 (by omega) (by decide), eF j 14 (by omega) (by decide), e15 j (by omega), upX_ne (show (0 : Nat) ≠ 1 by decide), upX_ne (show (2 : Nat) ≠ 1 by decide), upX_row]
          obtain ⟨u1, u2, u3⟩ := ab j hj
          refine ⟨u1, ?_, u3⟩
          by_cases z : j = l
          · rw [if_pos z, if_pos z]
          · rw [if_neg z, if_neg z]
            exact u2
        · obtain ⟨M, M1, M2, M3⟩ := ac r hr
          exact ⟨M, (F.C 12 rfl rfl r).trans M1, M2, fun i hi => (upX_ne (by decide)).trans (M3 i hi)⟩
        · rw [F.C 20 rfl rfl, F.C 21 rfl rfl, F.C 19 rfl rfl, upX_ne (show (4 : Nat) ≠ 1 by decide), upX_ne (show (5 : Nat) ≠ 1 by decide), upX_ne (show (6 : Nat) ≠ 1 by decide)]
          exact ad k hk
      · refine ⟨m, s3, ⟨(upX_ne (by decide)).trans b1, (upX_ne (by decide)).trans b2, b3, b4, (F.C 326 rfl rfl 63).trans b5, (F.C 326 rfl rfl 92).trans b6⟩, fun j hj => ?_, fun t d' i ht hd hi => ?_, fun k hk => ?_⟩
        · rw [F.C 366 rfl rfl, F.C 373 rfl rfl, e380 j, upX_ne (show (0 : Nat) ≠ 1 by decide), upX_ne (show (2 : Nat) ≠ 1 by decide), upX_row]
          obtain ⟨u1, u2, u3⟩ := bb j hj
          refine ⟨u1, ?_, ?_⟩
          · by_cases z : j = l
            · rw [if_pos z, if_pos z]
            · rw [if_neg z, if_neg z]
              exact u2
          · rcases u3 with u3 | ⟨a, w1, w2, w3, w4⟩
            · exact Or.inl u3
            · exact Or.inr ⟨a, w1, w2, (F.C 354 rfl rfl a).trans w3, w4⟩
        · rw [F.C 334 rfl rfl, upX_ne (by decide)]
          exact bc t d' i ht hd hi
        · rw [F.C 392 rfl rfl, F.C 393 rfl rfl, F.C 394 rfl rfl, upX_ne (show (4 : Nat) ≠ 1 by decide), upX_ne (show (5 : Nat) ≠ 1 by decide), upX_ne (show (6 : Nat) ≠ 1 by decide)]
          exact bd k hk
    · have d : ¬ ea_i h 53 l ≤ 1 := d
      rw [n_le, v53, l_1] at d
      exact no fun z => d z.2
  · have c : ¬ ea_i h (76 + 2 * l) 15 = 0 := c
    rw [n_eq, v15, l_0] at c
    exact no fun z => c z.1
end NB
