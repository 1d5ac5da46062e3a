/-! the call seats -/
noncomputable def bsT (T : Nat → Nat → Nat → Nat) (L : List Nat) (G X : Nat → Nat → Int) (p now m : Nat) : Int × Int × Int := sbO (sS T L G X p now m) (sW T G) (tN T)
/-- what the class remembers of the best seats -/
def SBe (h : ea_H) (T : Nat → Nat → Nat → Nat) (m : Nat) (X G : Nat → Nat → Int) : Prop := hI h 0 15 = 0 ∨ (hI h 0 15 = 1 ∧ ∀ L p, tList T L → fstB L (hI h 326 0).toNat p → hI h 0 16 = (bsT T L G X p (hI h 326 0).toNat m).1 ∧ ((bsT T L G X p (hI h 326 0).toNat m).1 ≠ 1209601 → hI h 0 17 = (bsT T L G X p (hI h 326 0).toNat m).2.1 ∧ hI h 0 18 = (bsT T L G X p (hI h 326 0).toNat m).2.2))
section CSE
variable {T : Nat → Nat → Nat → Nat} {L : List Nat} {G X X' : Nat → Nat → Int} {m n p now : Nat} {h h' : ea_H}
theorem bsT_e6 (e : ∀ f, f ≤ 6 → ∀ k, X' f k = X f k) : bsT T L G X' p now m = bsT T L G X p now m := by
  have : sS T L G X' p now m = sS T L G X p now m := funext fun a => funext fun b => smX_e6 (caX_e6 _ _ _ _ e) m
  unfold bsT
  rw [this]
theorem SBe.kq (s : keq [] [((0, 0), 15, 18), ((326, 326), 0, 0)] h h') (e : ∀ f, f ≤ 6 → ∀ k, X' f k = X f k) (c : SBe h T m X G) : SBe h' T m X' G := by
  rcases c with c | ⟨c1, c2⟩
  · exact Or.inl ((s.V 0 15 rfl).trans c)
  · refine Or.inr ⟨(s.V 0 15 rfl).trans c1, fun L p hL hp => ?_⟩
    rw [s.V 326 0 rfl] at hp ⊢
    rw [s.V 0 16 rfl, s.V 0 17 rfl, s.V 0 18 rfl, bsT_e6 e]
    exact c2 L p hL hp
def W_se : List (Nat × Nat) := [(13, 17), (22, 22), (63, 71), (336, 346), (376, 377), (381, 390), (395, 395), (407, 415)]
def V_se : List ((Nat × Nat) × Nat × Nat) := [((0, 0), 15, 18), ((62, 62), 0, 0), ((62, 62), 10, 10), ((326, 326), 12, 13)]
theorem call_seats (hs : ShC h) (bs : SBas h n) (b : STb h T) (wc : SWyC h T) (wm : SWyM h T n) (sl : SLe h n T m X G) (o67 : ∀ k, hI h 67 k = 0 ∨ hI h 67 k = 1) (be : SBe h T m X G) (x1 : Int32) : tw (qX11_seats x1 h) (qX12_seats x1) fun h' => fq W_se V_se h h' ∧ SWyC h' T ∧ SWyM h' T n ∧ (∀ k, hI h' 67 k = 0 ∨ hI h' 67 k = 1) ∧ ∃ X', SLe h' n T m X' G ∧ (∀ f, f ≤ 7 → ∀ k, X' f k = X f k) ∧ SBe h' T m X' G := by
  have sl0 := sl
  have bs0 := bs
  obtain ⟨b1, b2, b3, b4, b5, b6⟩ := bs
  obtain ⟨ok, cC, cM⟩ := b
  obtain ⟨now, e0⟩ : ∃ now : Nat, hI h 326 0 = now := ⟨(hI h 326 0).toNat, by omega⟩
  have n1 : now ≤ 10079 := by omega
  obtain ⟨⟨hG, gc, gm, rc, rn, rm, df, L, p, hL, hp, hX, hld⟩, -⟩ := sl
  rw [e0] at hp df
  have hp : fstB L now p := hp
  have df : DFm m (fun _ => (now : Int) / 1440) X h := df
  have hm := rc.1.2
  have hN : hI h 5 0 = tN T := cC.1
  have hN2 : hI h 326 2 = tN T := cM.1
  obtain ⟨s, h18, h92, gs⟩ : ∃ s : Nat, hI h 18 0 = s ∧ hI h 326 92 = s ∧ G 7 1 = s := by
    obtain ⟨m2, s, ⟨a1, a2, a3, a4, a5⟩, -⟩ := gc
    obtain ⟨m3, s3, ⟨b1, b2, b3, b4, b5, b6⟩, -⟩ := gm
    exact ⟨s, a5, by omega, a2⟩
  have v5 : (ea_i h 5 0).toInt = tN T := hN
  have v18 : (ea_i h 18 0).toInt = s := h18
  have w2 : (ea_i h 326 2).toInt = tN T := hN2
  have w92 : (ea_i h 326 92).toInt = s := h92
  have idle : (-1 : Int32) = -1 ∧ fq W_se V_se h h ∧ SWyC h T ∧ SWyM h T n ∧ (∀ k, hI h 67 k = 0 ∨ hI h 67 k = 1) ∧ ∃ X', SLe h n T m X' G ∧ (∀ f, f ≤ 7 → ∀ k, X' f k = X f k) ∧ SBe h T m X' G := ⟨rfl, fq_rfl _ _ _, wc, wm, o67, X, sl0, fun _ _ _ => rfl, be⟩
  by_cases gd0 : (0 < tN T ∧ 0 < s) ∧ (x1.toInt = 0 ∨ x1.toInt = 10 ∨ x1.toInt = 11 ∧ 2 ≤ s)
  case neg =>
    have ref : sat (qX12_seats x1 h) fun z => -1 = z.1 ∧ fq W_se V_se h z.2 ∧ SWyC z.2 T ∧ SWyM z.2 T n ∧ (∀ k, hI z.2 67 k = 0 ∨ hI z.2 67 k = 1) ∧ ∃ X', SLe z.2 n T m X' G ∧ (∀ f, f ≤ 7 → ∀ k, X' f k = X f k) ∧ SBe z.2 T m X' G := by
      unfold qX12_seats
      refine uqX12_seats_0 ?_
      unfold BX12_seats_0
      refine sat_ite (fun c => sat_ret idle) fun c1 => ?_
      refine sat_ite (fun c => sat_ret idle) fun c2 => ?_
      rw [n_eq, w2, l_0] at c1
      rw [n_eq, w92, l_0] at c2
      have k36 : ∀ a : Int32, (¬ ((10 : Int) ≤ x1.toInt ∧ x1.toInt ≤ a.toInt)) → sat (qX12_seats_36 x1 a 10 x1 h) fun z => -1 = z.1 ∧ fq W_se V_se h z.2 ∧ SWyC z.2 T ∧ SWyM z.2 T n ∧ (∀ k, hI z.2 67 k = 0 ∨ hI z.2 67 k = 1) ∧ ∃ X', SLe z.2 n T m X' G ∧ (∀ f, f ≤ 7 → ∀ k, X' f k = X f k) ∧ SBe z.2 T m X' G := fun a ha => by
        refine uqX12_seats_36 ?_
        unfold BX12_seats_36
        obtain ⟨v, q, r⟩ := m_isIn x1 10 a h
        rw [l_10] at r
        rcases r with ⟨r1, r2⟩ | ⟨r1, r2⟩
        · exact sat_call q (sat_pos r1 (sat_ret idle))
        · exact absurd r2 ha
      refine sat_ite (fun c => ?_) fun c3 => ?_
      · rw [n_eq, l_0] at c
        exact absurd ⟨⟨by omega, by omega⟩, Or.inl c⟩ gd0
      rw [n_eq, l_0] at c3
      refine sat_ite (fun c => ?_) fun c => ?_
      · rw [n_le, w92, l_1] at c
        exact k36 10 (by rw [l_10]; intro z; exact gd0 ⟨⟨by omega, by omega⟩, Or.inr (Or.inl (by omega))⟩)
      · rw [n_le, w92, l_1] at c
        exact k36 11 (by
          rw [l_11]
          intro z
          refine gd0 ⟨⟨by omega, by omega⟩, Or.inr ?_⟩
          omega)
    unfold tw qX11_seats
    refine uqX11_seats_0 ?_
    unfold BX11_seats_0
    refine sat_ite (fun c => sat_ret ref) fun c1 => ?_
    refine sat_ite (fun c => sat_ret ref) fun c2 => ?_
    rw [n_eq, v5, l_0] at c1
    rw [n_eq, v18, l_0] at c2
    refine sat_ite (fun c => ?_) fun c3 => ?_
    · rw [n_eq, l_0] at c
      exact absurd ⟨⟨by omega, by omega⟩, Or.inl c⟩ gd0
    refine sat_ite (fun c => ?_) fun c4 => ?_
    · rw [n_eq, l_10] at c
      exact absurd ⟨⟨by omega, by omega⟩, Or.inr (Or.inl c)⟩ gd0
    refine sat_ite (fun c => ?_) fun c5 => sat_ret ref
    rw [n_eq, l_11] at c
    refine sat_ite (fun d => ?_) fun d => sat_ret ref
    rw [n_le, v18, l_2] at d
    exact absurd ⟨⟨by omega, by omega⟩, Or.inr (Or.inr ⟨c, by omega⟩)⟩ gd0
  obtain ⟨⟨g1, g2⟩, g3⟩ := gd0
  have hW : 0 < sW T G := by
    unfold sW
    split <;> omega
  have best : (bsT T L G X p now m).1 ≤ 1209600 := sbO_le g1 hW fun a b => (sS_b (a := a) (b := b) ok hL hG n1 hX hm).2
  -- what the class has after seeking
  have cls : sat (qX11_seats_51 x1 h) fun y => (fq [(13, 17), (22, 22), (63, 71)] V_sk h y.2 ∧ SWyC y.2 T ∧ (∀ k, hI y.2 67 k = 0 ∨ hI y.2 67 k = 1) ∧ hI y.2 0 15 = 1 ∧ hI y.2 0 16 = (bsT T L G X p now m).1 ∧ hI y.2 0 17 = (bsT T L G X p now m).2.1 ∧ hI y.2 0 18 = (bsT T L G X p now m).2.2) ∧ y.1 = if x1 = 0 then ea_i y.2 0 16 else if x1 = 10 then ea_i y.2 0 17 else ea_i y.2 0 18 := by
    have last : ∀ y : ea_H, (fq [(13, 17), (22, 22), (63, 71)] V_sk h y ∧ SWyC y T ∧ (∀ k, hI y 67 k = 0 ∨ hI y 67 k = 1) ∧ hI y 0 15 = 1 ∧ hI y 0 16 = (bsT T L G X p now m).1 ∧ hI y 0 17 = (bsT T L G X p now m).2.1 ∧ hI y 0 18 = (bsT T L G X p now m).2.2) → sat (qX11_seats_62 x1 y) fun y => (fq [(13, 17), (22, 22), (63, 71)] V_sk h y.2 ∧ SWyC y.2 T ∧ (∀ k, hI y.2 67 k = 0 ∨ hI y.2 67 k = 1) ∧ hI y.2 0 15 = 1 ∧ hI y.2 0 16 = (bsT T L G X p now m).1 ∧ hI y.2 0 17 = (bsT T L G X p now m).2.1 ∧ hI y.2 0 18 = (bsT T L G X p now m).2.2) ∧ y.1 = if x1 = 0 then ea_i y.2 0 16 else if x1 = 10 then ea_i y.2 0 17 else ea_i y.2 0 18 := fun y hy => by
      refine uqX11_seats_62 ?_
      unfold BX11_seats_62
      refine sat_ite (fun c => sat_ret ⟨hy, by rw [if_pos c]⟩) fun c => ?_
      exact sat_ite (fun d => sat_ret ⟨hy, by rw [if_neg c, if_pos d]⟩) fun d => sat_ret ⟨hy, by rw [if_neg c, if_neg d]⟩
    refine uqX11_seats_51 ?_
    unfold BX11_seats_51
    have v15 : (ea_i h 0 15).toInt = hI h 0 15 := rfl
    refine sat_ite (fun c => ?_) fun c => ?_
    · refine sat_bind (c_seek ok hs cC wc gc hG rc o67 hL (b1.trans e0) n1 hp hX) fun w7 hw => ?_
      obtain ⟨f, k1, k2, k3, k4, k5⟩ := hw
      have k6 := k5 (by have : (sbO (sS T L G X p now m) (sW T G) (tN T)).1 ≤ 1209600 := best; omega)
      exact last w7.2 ⟨f, k1, k2, k3, k4, k6.1, k6.2⟩
    · rw [n_eq, v15, l_0] at c
      rcases be with z | ⟨z1, z2⟩
      · exact absurd z c
      · have q := z2 L p hL (by rw [e0]; exact hp)
        rw [show (hI h 326 0).toNat = now by omega] at q
        have q2 := q.2 (by omega)
        exact last h ⟨fq_rfl _ _ _, wc, o67, z1, q.1, q2.1, q2.2⟩
  -- the reference from there
  have rest : ∀ y : Int32 × ea_H, ((fq [(13, 17), (22, 22), (63, 71)] V_sk h y.2 ∧ SWyC y.2 T ∧ (∀ k, hI y.2 67 k = 0 ∨ hI y.2 67 k = 1) ∧ hI y.2 0 15 = 1 ∧ hI y.2 0 16 = (bsT T L G X p now m).1 ∧ hI y.2 0 17 = (bsT T L G X p now m).2.1 ∧ hI y.2 0 18 = (bsT T L G X p now m).2.2) ∧ y.1 = if x1 = 0 then ea_i y.2 0 16 else if x1 = 10 then ea_i y.2 0 17 else ea_i y.2 0 18) → sat (qX12_seats x1 y.2) fun z => y.1 = z.1 ∧ fq W_se V_se h z.2 ∧ SWyC z.2 T ∧ SWyM z.2 T n ∧ (∀ k, hI z.2 67 k = 0 ∨ hI z.2 67 k = 1) ∧ ∃ X', SLe z.2 n T m X' G ∧ (∀ f, f ≤ 7 → ∀ k, X' f k = X f k) ∧ SBe z.2 T m X' G := by
    rintro ⟨y1, y⟩ ⟨⟨f, k1, k2, k3, k4, k5, k6⟩, ey⟩
    dsimp only at f k1 k2 k3 k4 k5 k6 ey ⊢
    have hq : hiq h y := f.hiq rfl
    have fin : sat (qX12_seats_44 x1 y) fun z => y1 = z.1 ∧ fq W_se V_se h z.2 ∧ SWyC z.2 T ∧ SWyM z.2 T n ∧ (∀ k, hI z.2 67 k = 0 ∨ hI z.2 67 k = 1) ∧ ∃ X', SLe z.2 n T m X' G ∧ (∀ f, f ≤ 7 → ∀ k, X' f k = X f k) ∧ SBe z.2 T m X' G := by
      refine sat_mono (m_seek ok (MTab.hi hq cM) b6 ((hq 326 1 (by decide)).trans b5) (SWyM.hi b6 hq wm) (GM.hi hq gm) hG (RM0.hi hq rm) (DFm.hi hq df) hL ((hq 326 0 (by decide)).trans e0) n1 hp hX x1) fun z hz => ?_
      obtain ⟨f2, wm2, ⟨X2, rm2, df2, e2, r2⟩, x4, x5, x6, C, ez⟩ := hz
      have F : fq W_se V_se h z.2 := (f.up rfl rfl).tr (f2.up rfl rfl)
      have eX : tbX X X2 = X2 := funext fun a => funext fun k => by
        by_cases q : a ≤ 7
        · rw [tb_lo q, e2 a q]
        · exact tb_hi (by omega)
      have slz : SLe z.2 n T m X2 G := by
        have := SLe.tb (Y := X2) (F.kq rfl) r2 (by rw [eX]; exact rm2) (by rw [eX, e0]; exact df2) sl0
        rw [eX] at this
        exact this
      have c0 : ∀ k, hI z.2 0 k = hI y 0 k := fun k => f2.C 0 rfl rfl k
      have e1 : y1 = z.1 := by
        rcases C with ⟨c1, -⟩ | ⟨-, -, c3, c4, c5⟩
        · have : (sbO (sS T L G X p now m) (sW T G) (tN T)).1 ≤ 1209600 := best
          omega
        · have a4 : ea_i y 0 16 = x4 := n_eq.mpr (k4.trans c3.symm)
          have a5 : ea_i y 0 17 = x5 := n_eq.mpr (k5.trans c4.symm)
          have a6 : ea_i y 0 18 = x6 := n_eq.mpr (k6.trans c5.symm)
          rw [ey, ez, a4, a5, a6]
      refine ⟨e1, F, k1.kq (f2.kq rfl), wm2, fun k => or01 (f2.C 67 rfl rfl k) (k2 k), X2, slz, e2, Or.inr ⟨(c0 15).trans k3, fun L2 p2 hL2 hp2 => ?_⟩⟩
      have eL := t_uniq hL2 hL
      subst eL
      have ez0 : hI z.2 326 0 = now := (F.I 326 rfl 0 rfl).trans e0
      rw [ez0] at hp2 ⊢
      have ep := fst_uq hp2 hp
      subst ep
      have et : ((now : Nat) : Int).toNat = now := rfl
      rw [et, bsT_e6 fun f hf k => e2 f (by omega) k, c0, c0, c0]
      exact ⟨k4, fun _ => ⟨k5, k6⟩⟩
    have u2 : (ea_i y 326 2).toInt = tN T := (hq 326 2 (by decide)).trans hN2
    have u92 : (ea_i y 326 92).toInt = s := (hq 326 92 (by decide)).trans h92
    unfold qX12_seats
    refine uqX12_seats_0 ?_
    unfold BX12_seats_0
    refine sat_neg (by rw [n_eq, u2, l_0]; omega) (sat_neg (by rw [n_eq, u92, l_0]; omega) (sat_ite (fun _ => fin) fun c => ?_))
    rw [n_eq, l_0] at c
    have k36 : ∀ a : Int32, (10 : Int) ≤ x1.toInt ∧ x1.toInt ≤ a.toInt → sat (qX12_seats_36 x1 a 10 x1 y) fun z => y1 = z.1 ∧ fq W_se V_se h z.2 ∧ SWyC z.2 T ∧ SWyM z.2 T n ∧ (∀ k, hI z.2 67 k = 0 ∨ hI z.2 67 k = 1) ∧ ∃ X', SLe z.2 n T m X' G ∧ (∀ f, f ≤ 7 → ∀ k, X' f k = X f k) ∧ SBe z.2 T m X' G := fun a ha => by
      refine uqX12_seats_36 ?_
      unfold BX12_seats_36
      obtain ⟨v, q, r⟩ := m_isIn x1 10 a y
      rw [l_10] at r
      rcases r with ⟨r1, r2⟩ | ⟨r1, r2⟩
      · exact absurd ha r2
      · exact sat_call q (sat_neg (by rw [r1]; exact i1_ne_0) fin)
    refine sat_ite (fun d => ?_) fun d => ?_
    · rw [n_le, u92, l_1] at d
      exact k36 10 (by rw [l_10]; omega)
    · rw [n_le, u92, l_1] at d
      exact k36 11 (by rw [l_11]; omega)
  have go : sat (qX11_seats_51 x1 h) fun y => sat (qX12_seats x1 y.2) fun z => y.1 = z.1 ∧ fq W_se V_se h z.2 ∧ SWyC z.2 T ∧ SWyM z.2 T n ∧ (∀ k, hI z.2 67 k = 0 ∨ hI z.2 67 k = 1) ∧ ∃ X', SLe z.2 n T m X' G ∧ (∀ f, f ≤ 7 → ∀ k, X' f k = X f k) ∧ SBe z.2 T m X' G := sat_mono cls rest
  unfold tw qX11_seats
  refine uqX11_seats_0 ?_
  unfold BX11_seats_0
  refine sat_neg (by rw [n_eq, v5, l_0]; omega) (sat_neg (by rw [n_eq, v18, l_0]; omega) ?_)
  refine sat_ite (fun _ => go) fun c1 => ?_
  refine sat_ite (fun _ => go) fun c2 => ?_
  rw [n_eq, l_0] at c1
  rw [n_eq, l_10] at c2
  exact sat_pos (by rw [n_eq, l_11]; omega) (sat_pos (by rw [n_le, v18, l_2]; omega) go)
end CSE
