/-! calls: seats, in the reference; the call -/
section SEM
variable {T : Nat → Nat → Nat → Nat} {L : List Nat} {G X Y : Nat → Nat → Int} {m n p now : Nat} {h h0 h' : ea_H}
theorem GM.seat {x y : Int} {s : Nat} (k : keq [(334, 334), (354, 354), (366, 366), (373, 373), (380, 380), (392, 393)] [((326, 326), 63, 63), ((326, 326), 92, 92)] h h') (gs : G 7 1 = s) (e0 : hI h' 394 0 = x) (e1 : 1 < s → hI h' 394 1 = y) (e2 : ∀ k, 2 ≤ k → hI h' 394 k = hI h 394 k) (c : GM n G h) : GM n (sG G x y) h' := by
  obtain ⟨m, k2, ⟨a1, a2, a3, a4, a5, a6⟩, b, c, d⟩ := c
  have hk : k2 = s := by omega
  refine ⟨m, k2, ⟨(sG_f (by decide)).trans a1, (sG_f (by decide)).trans a2, a3, a4, (k.V 326 63 rfl).trans a5, (k.V 326 92 rfl).trans a6⟩, fun l hl => ?_, fun t d' i ht hd hi => ?_, fun q hq => ?_⟩
  · rw [k.W 366 rfl, k.W 380 rfl, k.W 373 rfl, sG_f (by decide), sG_f (by decide), sG_f (by decide)]
    obtain ⟨b1, b2, b3⟩ := b l hl
    refine ⟨b1, b2, ?_⟩
    rcases b3 with b3 | ⟨a, b4, b5, b6, b7⟩
    · exact Or.inl b3
    · exact Or.inr ⟨a, b4, b5, (k.W 354 rfl a).trans b6, b7⟩
  · rw [k.W 334 rfl, sG_f (by decide)]
    exact c t d' i ht hd hi
  · obtain ⟨d1, d2, d3⟩ := d q hq
    rw [k.W 392 rfl, k.W 393 rfl, sG_f (by decide), sG_f (by decide), sG_4]
    refine ⟨d1, d2, ?_⟩
    by_cases z : q = 1
    · rw [if_pos z, z]
      exact e1 (by omega)
    · rw [if_neg z]
      by_cases w : q = 0
      · rw [if_pos w, w]
        exact e0
      · rw [if_neg w, e2 q (by omega)]
        exact d3
/-- the reference's best so far -/
def rlC3 (C : Int × Int × Int) (x4 x5 x6 : Int32) : Prop := (C.1 = 1209601 ∧ x4 = -1) ∨ (C.1 ≠ 1209601 ∧ 0 ≤ C.1 ∧ x4.toInt = C.1 ∧ x5.toInt = C.2.1 ∧ x6.toInt = C.2.2)
def SmI (T : Nat → Nat → Nat → Nat) (n m now : Nat) (X : Nat → Nat → Int) (h0 h : ea_H) : Prop := fq ((394, 394) :: W_su) [((326, 326), 12, 13)] h0 h ∧ SWyM h T n ∧ (∀ k, 2 ≤ k → hI h 394 k = hI h0 394 k) ∧ (∀ k, hJ h 394 k = hJ h0 394 k) ∧ ∃ X2, RM0 m X2 h ∧ DFm m (fun _ => (now : Int) / 1440) X2 h ∧ (∀ f, f ≤ 7 → ∀ k, X2 f k = X f k) ∧ ∀ l, l < m → rwE X X2 l
theorem m_seek (ok : tOk T) (cM : MTab h T) (b6 : n ≤ 12) (b5 : hI h 326 1 = n) (wm : SWyM h T n) (gm : GM n G h) (hG : G 7 0 = m) (rm : RM0 m X h) (df : DFm m (fun _ => (now : Int) / 1440) X h) (hL : tList T L) (e0 : hI h 326 0 = now) (n1 : now ≤ 10079) (hp : fstB L now p) (hX : XOk T m (fun _ => 2 + (p : Int)) X) (x1 : Int32) :
    sat (qX12_seats_44 x1 h) fun y => fq W_su [((326, 326), 12, 13)] h y.2 ∧ SWyM y.2 T n ∧ (∃ X2, RM0 m X2 y.2 ∧ DFm m (fun _ => (now : Int) / 1440) X2 y.2 ∧ (∀ f, f ≤ 7 → ∀ k, X2 f k = X f k) ∧ ∀ l, l < m → rwE X X2 l) ∧ ∃ x4 x5 x6, rlC3 (sbO (sS T L G X p now m) (sW T G) (tN T)) x4 x5 x6 ∧ y.1 = if x1 = 0 then x4 else if x1 = 10 then x5 else x6 := by
  have hm := rm.1.2
  have hN : hI h 326 2 = tN T := cM.1
  have ok1 := ok.1
  have hSb := fun a b => sS_b (a := a) (b := b) (L := L) (G := G) (X := X) (p := p) (now := now) ok hL hG n1 hX hm
  have hW : sW T G ≤ 10 := by
    unfold sW
    split <;> omega
  obtain ⟨s, h92, gs⟩ : ∃ s : Nat, hI h 326 92 = s ∧ G 7 1 = s := by
    obtain ⟨m2, s, ⟨a1, a2, a3, a4, a5, a6⟩, -⟩ := gm
    exact ⟨s, a6, a2⟩
  have hSe : ∀ a b X2, (∀ f, f ≤ 7 → ∀ k, X2 f k = X f k) → smX (caX T L (sG G (a : Nat) (b : Nat)) 10079 (L.drop p) now X2) m = sS T L G X p now m a b := fun a b X2 e => smX_e6 (caX_e6 _ _ _ _ fun f hf k => e f (by omega) k) m
  generalize hSd : sS T L G X p now m = S at *
  have sbn : ∀ a B b, B.1 = 1209601 ∨ 0 ≤ B.1 → (sbI S a B b).1 = 1209601 ∨ 0 ≤ (sbI S a B b).1 := by
    intro a B b hB
    induction b with
    | zero => exact hB
    | succ b ih =>
      show (if S a b < (sbI S a B b).1 then (S a b, (a : Int), (b : Int)) else sbI S a B b).1 = _ ∨ 0 ≤ (if S a b < (sbI S a B b).1 then (S a b, (a : Int), (b : Int)) else sbI S a B b).1
      split
      · exact Or.inr (hSb a b).1
      · exact ih
  -- the inner loop
  have inn : ∀ (P : Int32 × ea_H → Prop) (x2 x3 x7 : Int32) (a : Nat) (B : Int × Int × Int), a < tN T → x7.toInt = a → (∀ h3 x4 x5 x6, SmI T n m now X h h3 → rlC3 (sbI S a B (sW T G)) x4 x5 x6 → sat (qX12_seats_70 x1 x2 x3 x4 x5 x6 (x7 + 1) h3) P) → ∀ (j b : Nat) (x4 x5 x6 x8 : Int32) (h2 : ea_H), b + j = sW T G → x8.toInt = b → SmI T n m now X h h2 → rlC3 (sbI S a B b) x4 x5 x6 → sat (qX12_seats_82 x1 x2 x3 x4 x5 x6 x7 x8 h2) P := by
    intro P x2 x3 x7 a B ha e7 K j
    induction j with
    | zero =>
      intro b x4 x5 x6 x8 h2 hb e8 I C
      have hbW : b = sW T G := by omega
      rw [hbW] at C
      have v92 : (ea_i h2 326 92).toInt = s := (I.1.I 326 rfl 92 rfl).trans h92
      have v2 : (ea_i h2 326 2).toInt = tN T := (I.1.I 326 rfl 2 rfl).trans hN
      have nxt : ∀ z : Int32, z.toInt = sW T G → sat (qX12_seats_100 x1 x2 x3 x4 x5 x6 x7 x8 z x8 h2) P := fun z ez => by
        refine uqX12_seats_100 ?_
        unfold BX12_seats_100
        exact sat_pos (by rw [n_le, ez, e8]; omega) (K h2 x4 x5 x6 I C)
      refine uqX12_seats_82 ?_
      unfold BX12_seats_82
      refine sat_ite (fun c => ?_) fun c => ?_
      · rw [n_le, v92, l_1] at c
        have w1 : sW T G = 1 := if_pos (by omega)
        exact nxt 1 (by rw [w1]; rfl)
      · rw [n_le, v92, l_1] at c
        have w1 : sW T G = tN T := if_neg (by omega)
        exact nxt (ea_i h2 326 2) (by rw [w1]; exact v2)
    | succ j ih =>
      intro b x4 x5 x6 x8 h2 hb e8 I C
      obtain ⟨f, wm2, i394, j394, X2, rm2, df2, e2, r2⟩ := I
      have v92 : (ea_i h2 326 92).toInt = s := (f.I 326 rfl 92 rfl).trans h92
      have v2 : (ea_i h2 326 2).toInt = tN T := (f.I 326 rfl 2 rfl).trans hN
      have hX2 : XOk T m (fun _ => 2 + (p : Int)) X2 := fun l hl => XL_cg (e2 0 (by decide) l) (e2 1 (by decide) l) (e2 2 (by decide) l) (e2 4 (by decide) l) (e2 5 (by decide) l) (e2 7 (by decide) l) (hX l hl)
      -- the sum, and what follows
      have go : ∀ H : ea_H, fq [(394, 394)] [] h2 H → hI H 394 0 = (a : Int) → (1 < s → hI H 394 1 = (b : Int)) → (∀ k, 2 ≤ k → hI H 394 k = hI h 394 k) → (∀ k, hJ H 394 k = hJ h 394 k) → sat (qX12_seats_127 x1 x2 x3 x4 x5 x6 x7 x8 H) P := by
        intro H fH g0 g1 g2 gj
        have FH : fq ((394, 394) :: W_su) [((326, 326), 12, 13)] h H := f.tr (fH.up rfl rfl)
        refine uqX12_seats_127 ?_
        unfold BX12_seats_127
        refine sat_bind (m_sums (G := sG G a b) ok hL ((sG_f (by decide)).trans hG) (MTab.fq FH rfl rfl ⟨rfl, rfl⟩ ⟨rfl, rfl⟩ ⟨rfl, rfl⟩ ⟨rfl, rfl⟩ ⟨rfl, rfl⟩ cM) b6 ((FH.I 326 rfl 1 rfl).trans b5) (SWyM.kq b6 (fH.kq rfl) wm2) (gm.seat (FH.kq rfl) gs g0 g1 g2) (rm2.kq (fH.kq rfl)) ((FH.I 326 rfl 0 rfl).trans e0) n1 (fun l hl hz => (fH.C 377 rfl rfl l).trans (df2 l hl hz)) hp hX2) fun w21 hw => ?_
        obtain ⟨f21, rm21, df21, wm21, v21⟩ := hw
        rw [hSe a b X2 e2] at v21
        have sb := hSb a b
        have rr := tb_rw (G := sG G a b) ok hL ((sG_f (by decide)).trans hG) n1 hp.1 hX2
        have I21 : SmI T n m now X h w21.2 := by
          refine ⟨FH.tr (f21.up rfl rfl), wm21, fun k hk => (f21.C 394 rfl rfl k).trans (g2 k hk), fun k => (f21.J 394 rfl k).trans (gj k), _, rm21, df21, fun f hf k => (tb_lo hf).trans (e2 f hf k), fun l hl i hi => ?_⟩
          have x7 := e2 7 (by decide) l
          obtain ⟨u1, u2, u3⟩ := rr l hl i (by rw [x7]; exact hi)
          obtain ⟨t1, t2, t3⟩ := r2 l hl i hi
          rw [tb_hi (f := 8) (by decide), tb_hi (f := 9) (by decide), tb_hi (f := 10) (by decide)]
          exact ⟨u1.trans t1, u2.trans t2, u3.trans t3⟩
        have yes : S a b < (sbI S a B b).1 → sat (qX12_seats_82 x1 x2 x3 w21.1 x7 x8 x7 (x8 + 1) w21.2) P := fun c => by
          have e : sbI S a B (b + 1) = (S a b, (a : Int), (b : Int)) := if_pos c
          refine ih (b + 1) _ _ _ (x8 + 1) w21.2 (by omega) (n_inc e8 (by omega)) I21 ?_
          rw [e]
          exact Or.inr ⟨by dsimp only; omega, sb.1, v21, e7, e8⟩
        refine sat_ite (fun c => ?_) fun c => ?_
        · refine yes ?_
          rcases C with ⟨c1, c2⟩ | ⟨c1, c2, c3, -⟩
          · omega
          · rw [n_eq, c3, l_m1] at c
            omega
        rw [n_eq, l_m1] at c
        rcases C with ⟨c1, c2⟩ | ⟨c1, c2, c3, c4, c5⟩
        · rw [c2] at c
          exact absurd rfl c
        refine sat_ite (fun d => ?_) fun d => ?_
        · rw [n_lt, v21, c3] at d
          exact yes d
        · rw [n_lt, v21, c3] at d
          have e : sbI S a B (b + 1) = sbI S a B b := if_neg d
          refine ih (b + 1) _ _ _ (x8 + 1) w21.2 (by omega) (n_inc e8 (by omega)) I21 ?_
          rw [e]
          exact Or.inr ⟨c1, c2, c3, c4, c5⟩
      have nxt : ∀ z : Int32, z.toInt = sW T G → sat (qX12_seats_100 x1 x2 x3 x4 x5 x6 x7 x8 z x8 h2) P := fun z ez => by
        refine uqX12_seats_100 ?_
        unfold BX12_seats_100
        refine sat_neg (by rw [n_le, ez, e8]; omega) (sat_gd (vp80 (n := 0) rfl (by decide)) (sat_let fun H16 q16 => ?_))
        have q16 : H16 = ea_wi h2 394 0 x7 := q16
        have f16 : fq [(394, 394)] [] h2 H16 := q16 ▸ fq_wi rfl
        have u0 : hI H16 394 0 = (a : Int) := by
          rw [q16, hI_at]
          exact e7
        have u2 : ∀ k, 2 ≤ k → hI H16 394 k = hI h 394 k := fun k hk => by
          rw [q16, hI_nk (by omega)]
          exact i394 k hk
        have uj : ∀ k, hJ H16 394 k = hJ h 394 k := fun k => by
          rw [q16, hJ_wi]
          exact j394 k
        have w92 : (ea_i H16 326 92).toInt = s := (f16.C 326 rfl rfl 92).trans v92
        refine sat_ite (fun c => ?_) fun c => ?_
        · rw [n_le, w92, l_1] at c
          exact go H16 f16 u0 (fun z => by omega) u2 uj
        · refine sat_gd (vp80 (n := 1) rfl (by decide)) (sat_let fun H18 q18 => ?_)
          have q18 : H18 = ea_wi H16 394 1 x8 := q18
          refine go H18 (f16.tr (q18 ▸ fq_wi rfl)) ?_ (fun _ => ?_) (fun k hk => ?_) fun k => ?_
          · rw [q18, hI_nk (by decide)]
            exact u0
          · rw [q18, hI_at]
            exact e8
          · rw [q18, hI_nk (by omega)]
            exact u2 k hk
          · rw [q18, hJ_wi]
            exact uj k
      refine uqX12_seats_82 ?_
      unfold BX12_seats_82
      refine sat_ite (fun c => ?_) fun c => ?_
      · rw [n_le, v92, l_1] at c
        have w1 : sW T G = 1 := if_pos (by omega)
        exact nxt 1 (by rw [w1]; rfl)
      · rw [n_le, v92, l_1] at c
        have w1 : sW T G = tN T := if_neg (by omega)
        exact nxt (ea_i h2 326 2) (by rw [w1]; exact v2)
  -- the outer loop
  have out : ∀ (x2 x3 : Int32), x2.toInt = hI h 394 0 → x3.toInt = hI h 394 1 → ∀ (j a : Nat) (x4 x5 x6 x7 : Int32) (h2 : ea_H), a + j = tN T → x7.toInt = a → SmI T n m now X h h2 → rlC3 (sbO S (sW T G) a) x4 x5 x6 → sat (qX12_seats_70 x1 x2 x3 x4 x5 x6 x7 h2) fun y => fq W_su [((326, 326), 12, 13)] h y.2 ∧ SWyM y.2 T n ∧ (∃ X2, RM0 m X2 y.2 ∧ DFm m (fun _ => (now : Int) / 1440) X2 y.2 ∧ (∀ f, f ≤ 7 → ∀ k, X2 f k = X f k) ∧ ∀ l, l < m → rwE X X2 l) ∧ ∃ x4 x5 x6, rlC3 (sbO S (sW T G) (tN T)) x4 x5 x6 ∧ y.1 = if x1 = 0 then x4 else if x1 = 10 then x5 else x6 := by
    intro x2 x3 e2 e3 j
    induction j with
    | zero =>
      intro a x4 x5 x6 x7 h2 ha e7 I C
      obtain ⟨f, wm2, i394, j394, X2, rm2, df2, e6, r2⟩ := I
      rw [show a = tN T by omega] at C
      refine uqX12_seats_70 ?_
      unfold BX12_seats_70
      refine sat_pos (by rw [n_le, hI_eq, f.I 326 rfl 2 rfl, hN, e7]; omega) (sat_gd (vp80 (n := 0) rfl (by decide)) (sat_let fun H8 q8 => sat_gd (vp80 (n := 1) rfl (by decide)) (sat_let fun H10 q10 => ?_)))
      have q8 : H8 = ea_wi h2 394 0 x2 := q8
      have q10 : H10 = ea_wi H8 394 1 x3 := q10
      have f10 : fq [(394, 394)] [] h2 H10 := (q8 ▸ fq_wi rfl : fq [(394, 394)] [] h2 H8).tr (q10 ▸ fq_wi rfl)
      have F : fq W_su [((326, 326), 12, 13)] h H10 := by
        refine fq_dr (f.tr (f10.up rfl rfl)) (fun k => ?_) fun k => ?_
        · rw [q10]
          by_cases z : k = 1
          · rw [z, hI_at]
            exact e3
          · rw [hI_nk z, q8]
            by_cases w : k = 0
            · rw [w, hI_at]
              exact e2
            · rw [hI_nk w]
              exact i394 k (by omega)
        · rw [q10, hJ_wi, q8, hJ_wi]
          exact j394 k
      have fin : ∀ v : Int32, (v = if x1 = 0 then x4 else if x1 = 10 then x5 else x6) → fq W_su [((326, 326), 12, 13)] h H10 ∧ SWyM H10 T n ∧ (∃ X2, RM0 m X2 H10 ∧ DFm m (fun _ => (now : Int) / 1440) X2 H10 ∧ (∀ f, f ≤ 7 → ∀ k, X2 f k = X f k) ∧ ∀ l, l < m → rwE X X2 l) ∧ ∃ x4 x5 x6, rlC3 (sbO S (sW T G) (tN T)) x4 x5 x6 ∧ v = if x1 = 0 then x4 else if x1 = 10 then x5 else x6 := fun v hv => ⟨F, SWyM.kq b6 (f10.kq rfl) wm2, ⟨X2, rm2.kq (f10.kq rfl), fun l hl hz => (f10.C 377 rfl rfl l).trans (df2 l hl hz), e6, r2⟩, x4, x5, x6, C, hv⟩
      refine sat_ite (fun c => sat_ret (fin x4 (by rw [if_pos c]))) fun c => ?_
      refine sat_ite (fun d => sat_ret (fin x5 (by rw [if_neg c, if_pos d]))) fun d => sat_ret (fin x6 (by rw [if_neg c, if_neg d]))
    | succ j ih =>
      intro a x4 x5 x6 x7 h2 ha e7 I C
      have f := I.1
      refine uqX12_seats_70 ?_
      unfold BX12_seats_70
      exact sat_neg (by rw [n_le, hI_eq, f.I 326 rfl 2 rfl, hN, e7]; omega) (inn _ x2 x3 x7 a (sbO S (sW T G) a) (by omega) e7 (fun h3 x4 x5 x6 I3 C3 => ih (a + 1) x4 x5 x6 (x7 + 1) h3 (by omega) (n_inc e7 (by omega)) I3 C3) (sW T G) 0 x4 x5 x6 0 h2 (by omega) rfl I C)
  refine uqX12_seats_44 ?_
  unfold BX12_seats_44
  exact out (ea_i h 394 0) (ea_i h 394 1) rfl rfl (tN T) 0 (-1) 0 0 0 h (by omega) rfl ⟨fq_rfl _ _ _, wm, fun _ _ => rfl, fun _ => rfl, X, rm, df, fun _ _ _ => rfl, fun _ _ _ _ => ⟨rfl, rfl, rfl⟩⟩ (Or.inl ⟨rfl, rfl⟩)
end SEM
