/-! calls: seats, purely and in the class -/
def sG (G : Nat → Nat → Int) (a b : Int) : Nat → Nat → Int := upX (upX G 4 0 a) 4 1 b
def sbI (S : Nat → Nat → Int) (a : Nat) (B : Int × Int × Int) : Nat → Int × Int × Int
  | 0 => B
  | b + 1 => if S a b < (sbI S a B b).1 then (S a b, (a : Int), (b : Int)) else sbI S a B b
def sbO (S : Nat → Nat → Int) (W : Nat) : Nat → Int × Int × Int
  | 0 => (1209601, 0, 0)
  | a + 1 => sbI S a (sbO S W a) W
noncomputable def sS (T : Nat → Nat → Nat → Nat) (L : List Nat) (G X : Nat → Nat → Int) (p now m a b : Nat) : Int := smX (caX T L (sG G a b) 10079 (L.drop p) now X) m
def sW (T : Nat → Nat → Nat → Nat) (G : Nat → Nat → Int) : Nat := if G 7 1 ≤ 1 then 1 else tN T
section SEA
variable {T : Nat → Nat → Nat → Nat} {L : List Nat} {G X Y : Nat → Nat → Int} {m n p now a b : Nat} {h h0 h' : ea_H} {S : Nat → Nat → Int}
theorem sG_f {x y : Int} {f k : Nat} (hf : f ≠ 4) : sG G x y f k = G f k := by
  unfold sG
  rw [upX_ne hf, upX_ne hf]
theorem sG_4 {x y : Int} (k : Nat) : sG G x y 4 k = if k = 1 then y else if k = 0 then x else G 4 k := by
  unfold sG
  rw [upX_row, upX_row]
theorem sS_b (ok : tOk T) (hL : tList T L) (hG : G 7 0 = m) (n1 : now ≤ 10079) (hX : XOk T m (fun _ => 2 + (p : Int)) X) (hm : m ≤ 120) : 0 ≤ sS T L G X p now m a b ∧ sS T L G X p now m a b ≤ 1209600 := by
  have XO := caX_ok (T := T) (L := L) (G := sG G a b) (m := m) (up := 10079) ok hL ((sG_f (by decide)).trans hG) (by omega) (L.drop p) now X (2 + (p : Int)) (fun x hx => List.mem_of_mem_drop hx) (by omega) hX
  have := smX_b XO m (Nat.le_refl _)
  unfold sS
  omega
theorem sbI_le {B : Int × Int × Int} : ∀ b, (sbI S a B b).1 ≤ B.1 ∧ ∀ c, c < b → (sbI S a B b).1 ≤ S a c := by
  intro b
  induction b with
  | zero => exact ⟨Int.le_refl _, fun c hc => absurd hc (Nat.not_lt_zero c)⟩
  | succ b ih =>
    obtain ⟨i1, i2⟩ := ih
    show (if S a b < (sbI S a B b).1 then (S a b, (a : Int), (b : Int)) else sbI S a B b).1 ≤ B.1 ∧ ∀ c, c < b + 1 → (if S a b < (sbI S a B b).1 then (S a b, (a : Int), (b : Int)) else sbI S a B b).1 ≤ S a c
    by_cases z : S a b < (sbI S a B b).1
    · rw [if_pos z]
      dsimp only
      refine ⟨by omega, fun c hc => ?_⟩
      by_cases w : c = b
      · rw [w]
        exact Int.le_refl _
      · have := i2 c (by omega)
        omega
    · rw [if_neg z]
      refine ⟨i1, fun c hc => ?_⟩
      by_cases w : c = b
      · rw [w]
        omega
      · exact i2 c (by omega)
theorem sbO_le {W N : Nat} (hN : 0 < N) (hW : 0 < W) (hS : ∀ a b, S a b ≤ 1209600) : (sbO S W N).1 ≤ 1209600 := by
  cases N with
  | zero => exact absurd hN (Nat.lt_irrefl 0)
  | succ N =>
    have := (sbI_le (S := S) (a := N) (B := sbO S W N) W).2 0 hW
    have := hS N 0
    show (sbI S N (sbO S W N) W).1 ≤ _
    omega
theorem GC.seat {x y : Int} (s : keq [(12, 12), (20, 21)] [((18, 18), 0, 0), ((76, 315), 2, 2), ((76, 315), 14, 15)] h h') (e0 : hI h' 19 0 = x) (e1 : hI h' 19 1 = y) (e2 : ∀ k, 2 ≤ k → hI h' 19 k = hI h 19 k) (c : GC G h) : GC (sG G x y) h' := by
  obtain ⟨m, k, ⟨a1, a2, a3, a4, a5⟩, b, c, d⟩ := c
  have el : ltE [2, 14, 15] h h' := keq.lt s rfl
  refine ⟨m, k, ⟨(sG_f (by decide)).trans a1, (sG_f (by decide)).trans a2, a3, a4, (s.V 18 0 rfl).trans a5⟩, fun l hl => ?_, fun r hr => ?_, fun q hq => ?_⟩
  · rw [el l 2 (by omega) (by decide), el l 14 (by omega) (by decide), el l 15 (by omega) (by decide), sG_f (by decide), sG_f (by decide), sG_f (by decide)]
    exact b l hl
  · obtain ⟨M, M1, M2, M3⟩ := c r hr
    exact ⟨M, (s.W 12 rfl r).trans M1, M2, fun i hi => (sG_f (by decide)).trans (M3 i hi)⟩
  · obtain ⟨d1, d2, d3⟩ := d q hq
    rw [s.W 20 rfl, s.W 21 rfl, sG_f (by decide), sG_f (by decide), sG_4]
    refine ⟨d1, d2, ?_⟩
    by_cases z : q = 1
    · rw [if_pos z, z]
      exact e1
    · rw [if_neg z]
      by_cases w : q = 0
      · rw [if_pos w, w]
        exact e0
      · rw [if_neg w, e2 q (by omega)]
        exact d3
def W_sk : List (Nat × Nat) := [(19, 19), (13, 17), (22, 22), (63, 71)]
def V_sk : List ((Nat × Nat) × Nat × Nat) := [((0, 0), 15, 18), ((62, 62), 0, 0), ((62, 62), 10, 10)]
def SkI (T : Nat → Nat → Nat → Nat) (h0 h : ea_H) (C : Int × Int × Int) : Prop := fq W_sk V_sk h0 h ∧ SWyC h T ∧ (∀ k, hI h 67 k = 0 ∨ hI h 67 k = 1) ∧ (∀ k, 2 ≤ k → hI h 19 k = hI h0 19 k) ∧ (∀ k, hJ h 19 k = hJ h0 19 k) ∧ hI h 0 16 = C.1 ∧ (C.1 ≠ 1209601 → hI h 0 17 = C.2.1 ∧ hI h 0 18 = C.2.2)
theorem c_seek (ok : tOk T) (hs : ShC h) (hT : CTab h T) (wc : SWyC h T) (gc : GC G h) (hG : G 7 0 = m) (rc : RC52 m X h) (o67 : ∀ k, hI h 67 k = 0 ∨ hI h 67 k = 1) (hL : tList T L) (e14 : hI h 0 14 = now) (n1 : now ≤ 10079) (hp : fstB L now p) (hX : XOk T m (fun _ => 2 + (p : Int)) X) :
    sat (qX11_seekSeats h) fun y => fq [(13, 17), (22, 22), (63, 71)] V_sk h y.2 ∧ SWyC y.2 T ∧ (∀ k, hI y.2 67 k = 0 ∨ hI y.2 67 k = 1) ∧ hI y.2 0 15 = 1 ∧ hI y.2 0 16 = (sbO (sS T L G X p now m) (sW T G) (tN T)).1 ∧ ((sbO (sS T L G X p now m) (sW T G) (tN T)).1 ≠ 1209601 → hI y.2 0 17 = (sbO (sS T L G X p now m) (sW T G) (tN T)).2.1 ∧ hI y.2 0 18 = (sbO (sS T L G X p now m) (sW T G) (tN T)).2.2) := by
  have hm := rc.1.2
  have hN : hI h 5 0 = tN T := hT.1
  have ok1 := ok.1
  have hSb := fun a b => sS_b (a := a) (b := b) (L := L) (G := G) (X := X) (p := p) (now := now) ok hL hG n1 hX hm
  have hW : sW T G ≤ 10 := by
    unfold sW
    split <;> omega
  obtain ⟨s, hs18, gs⟩ : ∃ s : Nat, hI h 18 0 = s ∧ G 7 1 = s := by
    obtain ⟨m2, s, ⟨a1, a2, a3, a4, a5⟩, -⟩ := gc
    exact ⟨s, a5, a2⟩
  generalize hSd : sS T L G X p now m = S at *
  -- the inner loop
  have inn : ∀ (P : Unit × ea_H → Prop) (x1 x2 x3 x4 : Int32) (a : Nat) (B : Int × Int × Int), a < tN T → x4.toInt = a → x3.toInt = sW T G → (∀ h3, SkI T h h3 (sbI S a B (sW T G)) → sat (qX11_seekSeats_53 x1 x2 x3 (x4 + 1) h3) P) → ∀ (j b : Nat) (x5 : Int32) (h2 : ea_H), b + j = sW T G → x5.toInt = b → SkI T h h2 (sbI S a B b) → sat (qX11_seekSeats_68 x1 x2 x3 x4 x5 h2) P := by
    intro P x1 x2 x3 x4 a B ha e4 e3 K j
    induction j with
    | zero =>
      intro b x5 h2 hb e5 I
      refine uqX11_seekSeats_68 ?_
      unfold BX11_seekSeats_68
      refine sat_pos (by rw [n_le, e3, e5]; omega) (K h2 ?_)
      rw [← show b = sW T G by omega]
      exact I
    | succ j ih =>
      intro b x5 h2 hb e5 I
      obtain ⟨f, wc2, o2, i19, j19, c16, c17⟩ := I
      refine uqX11_seekSeats_68 ?_
      unfold BX11_seekSeats_68
      refine sat_neg (by rw [n_le, e3, e5]; omega) (sat_gd (vp80 (n := 0) rfl (by decide)) (sat_let fun H11 q11 => sat_gd (vp80 (n := 1) rfl (by decide)) (sat_let fun H13 q13 => ?_)))
      have q11 : H11 = ea_wi h2 19 0 x4 := q11
      have q13 : H13 = ea_wi H11 19 1 x5 := q13
      have f13 : fq [(19, 19)] [] h2 H13 := (q11 ▸ fq_wi rfl : fq [(19, 19)] [] h2 H11).tr (q13 ▸ fq_wi rfl)
      have F13 : fq W_sk V_sk h H13 := f.tr (f13.up rfl rfl)
      have g0 : hI H13 19 0 = (a : Int) := by
        rw [q13, hI_nk (by decide), q11, hI_at]
        exact e4
      have g1 : hI H13 19 1 = (b : Int) := by
        rw [q13, hI_at]
        exact e5
      have g2 : ∀ k, 2 ≤ k → hI H13 19 k = hI h 19 k := fun k hk => by
        rw [q13, hI_nk (by omega), q11, hI_nk (by omega)]
        exact i19 k hk
      refine sat_bind (c_outcome (G := sG G a b) ok (ShC_core F13.1 hs) (hT.kq (F13.kq rfl)) (wc2.kq (f13.kq rfl)) (gc.seat (F13.kq rfl) g0 g1 g2) ((sG_f (by decide)).trans hG) (rc.kq (F13.kq rfl)) (fun k => or01 (f13.C 67 rfl rfl k) (o2 k)) hL ((F13.I 0 rfl 14 rfl).trans e14) n1 hp hX) fun w14 hw => ?_
      obtain ⟨f14, k14, o14, v14⟩ := hw
      have F14 : fq W_sk V_sk h w14.2 := F13.tr (f14.up rfl rfl)
      have v14 : w14.1.toInt = S a b := by
        rw [v14, ← hSd]
        rfl
      have sb := hSb a b
      have r16 : (ea_i w14.2 0 16).toInt = (sbI S a B b).1 := by
        show hI w14.2 0 16 = _
        rw [f14.I 0 rfl 16 rfl, f13.C 0 rfl rfl]
        exact c16
      have r17 : (sbI S a B b).1 ≠ 1209601 → hI w14.2 0 17 = (sbI S a B b).2.1 ∧ hI w14.2 0 18 = (sbI S a B b).2.2 := fun z => by
        rw [f14.I 0 rfl 17 rfl, f13.C 0 rfl rfl, f14.I 0 rfl 18 rfl, f13.C 0 rfl rfl]
        exact c17 z
      have h19 : ∀ k, 2 ≤ k → hI w14.2 19 k = hI h 19 k := fun k hk => (f14.C 19 rfl rfl k).trans (g2 k hk)
      have jj19 : ∀ k, hJ w14.2 19 k = hJ h 19 k := fun k => by
        rw [f14.J 19 rfl, q13, hJ_wi, q11, hJ_wi]
        exact j19 k
      refine sat_ite (fun c => ?_) fun c => ?_
      · rw [n_le, r16, v14] at c
        have e : sbI S a B (b + 1) = sbI S a B b := if_neg (by omega)
        exact ih (b + 1) (x5 + 1) w14.2 (by omega) (n_inc e5 (by omega)) ⟨F14, k14, o14, h19, jj19, by rw [e]; exact r16, by rw [e]; exact r17⟩
      · rw [n_le, r16, v14] at c
        have e : sbI S a B (b + 1) = (S a b, (a : Int), (b : Int)) := if_pos (by omega)
        refine sat_let fun H15 q15 => sat_let fun H16 q16 => sat_let fun H17 q17 => ?_
        have f17 : fq [] [((0, 0), 16, 18)] w14.2 H17 := (q15 ▸ fq_wf rfl : fq [] [((0, 0), 16, 18)] w14.2 H15).tr ((q16 ▸ fq_wf rfl : fq [] [((0, 0), 16, 18)] H15 H16).tr (q17 ▸ fq_wf rfl))
        refine ih (b + 1) (x5 + 1) H17 (by omega) (n_inc e5 (by omega)) ⟨F14.tr (f17.up rfl rfl), k14.kq (f17.kq rfl), fun k => or01 (f17.C 67 rfl rfl k) (o14 k), fun k hk => (f17.C 19 rfl rfl k).trans (h19 k hk), fun k => (f17.J 19 rfl k).trans (jj19 k), ?_, fun _ => ⟨?_, ?_⟩⟩
        · rw [e, q17, hI_nk (by decide), q16, hI_nk (by decide), q15, hI_at]
          exact v14
        · rw [e, q17, hI_nk (by decide), q16, hI_at]
          exact e4
        · rw [e, q17, hI_at]
          exact e5
  -- the outer loop
  have out : ∀ (x1 x2 x3 : Int32), x1.toInt = hI h 19 0 → x2.toInt = hI h 19 1 → x3.toInt = sW T G → ∀ (j a : Nat) (x4 : Int32) (h2 : ea_H), a + j = tN T → x4.toInt = a → SkI T h h2 (sbO S (sW T G) a) → sat (qX11_seekSeats_53 x1 x2 x3 x4 h2) fun y => fq [(13, 17), (22, 22), (63, 71)] V_sk h y.2 ∧ SWyC y.2 T ∧ (∀ k, hI y.2 67 k = 0 ∨ hI y.2 67 k = 1) ∧ hI y.2 0 15 = 1 ∧ hI y.2 0 16 = (sbO S (sW T G) (tN T)).1 ∧ ((sbO S (sW T G) (tN T)).1 ≠ 1209601 → hI y.2 0 17 = (sbO S (sW T G) (tN T)).2.1 ∧ hI y.2 0 18 = (sbO S (sW T G) (tN T)).2.2) := by
    intro x1 x2 x3 e1 e2 e3 j
    induction j with
    | zero =>
      intro a x4 h2 ha e4 I
      obtain ⟨f, wc2, o2, i19, j19, c16, c17⟩ := I
      rw [show a = tN T by omega] at c16 c17
      refine uqX11_seekSeats_53 ?_
      unfold BX11_seekSeats_53
      refine sat_pos (by rw [n_le, hI_eq, f.C 5 rfl rfl, hN, e4]; omega) (sat_gd (vp80 (n := 0) rfl (by decide)) (sat_let fun H5 q5 => sat_gd (vp80 (n := 1) rfl (by decide)) (sat_let fun H7 q7 => sat_let fun H8 q8 => sat_ret ?_)))
      have q5 : H5 = ea_wi h2 19 0 x1 := q5
      have q7 : H7 = ea_wi H5 19 1 x2 := q7
      have f8 : fq [(19, 19)] [((0, 0), 15, 15)] h2 H8 := (q5 ▸ fq_wi rfl : fq [(19, 19)] [((0, 0), 15, 15)] h2 H5).tr ((q7 ▸ fq_wi rfl : fq [(19, 19)] [((0, 0), 15, 15)] H5 H7).tr (q8 ▸ fq_wf rfl))
      have F : fq W_sk V_sk h H8 := f.tr (f8.up rfl rfl)
      refine ⟨fq_dr F (fun k => ?_) fun k => ?_, wc2.kq (f8.kq rfl), fun k => or01 (f8.C 67 rfl rfl k) (o2 k), ?_, (f8.I 0 rfl 16 rfl).trans c16, fun z => ⟨(f8.I 0 rfl 17 rfl).trans (c17 z).1, (f8.I 0 rfl 18 rfl).trans (c17 z).2⟩⟩
      · rw [q8, hI_ne (by decide), q7]
        by_cases z : k = 1
        · rw [z, hI_at]
          exact e2
        · rw [hI_nk z, q5]
          by_cases w : k = 0
          · rw [w, hI_at]
            exact e1
          · rw [hI_nk w]
            exact i19 k (by omega)
      · rw [q8, hJ_wi, q7, hJ_wi, q5, hJ_wi]
        exact j19 k
      · show hI H8 0 15 = 1
        rw [q8, hI_at]
        rfl
    | succ j ih =>
      intro a x4 h2 ha e4 I
      have f := I.1
      refine uqX11_seekSeats_53 ?_
      unfold BX11_seekSeats_53
      exact sat_neg (by rw [n_le, hI_eq, f.C 5 rfl rfl, hN, e4]; omega) (inn _ x1 x2 x3 x4 a (sbO S (sW T G) a) (by omega) e4 e3 (fun h3 I3 => ih (a + 1) (x4 + 1) h3 (by omega) (n_inc e4 (by omega)) I3) (sW T G) 0 0 h2 (by omega) rfl I)
  have v18 : (ea_i h 18 0).toInt = s := hs18
  have start : ∀ H : ea_H, H = ea_wi h 0 16 1209601 → fq [] [((0, 0), 16, 16)] h H ∧ SkI T h H (sbO S (sW T G) 0) := fun H q => by
    have f : fq [] [((0, 0), 16, 16)] h H := q ▸ fq_wf rfl
    refine ⟨f, f.up rfl rfl, wc.kq (f.kq rfl), fun k => or01 (f.C 67 rfl rfl k) (o67 k), fun k _ => f.C 19 rfl rfl k, fun k => f.J 19 rfl k, ?_, fun z => absurd rfl z⟩
    rw [q, hI_at]
    rfl
  unfold qX11_seekSeats
  refine uqX11_seekSeats_0 ?_
  unfold BX11_seekSeats_0
  refine sat_ite (fun c => ?_) fun c => ?_
  · rw [n_le, v18, l_1] at c
    refine sat_let fun H1 q1 => ?_
    obtain ⟨f1, I1⟩ := start H1 q1
    have w1 : sW T G = 1 := if_pos (by omega)
    exact out (ea_i h 19 0) (ea_i h 19 1) 1 rfl rfl (by rw [w1]; rfl) (tN T) 0 0 H1 (by omega) rfl I1
  · rw [n_le, v18, l_1] at c
    refine sat_let fun H1 q1 => ?_
    obtain ⟨f1, I1⟩ := start H1 q1
    have w1 : sW T G = tN T := if_neg (by omega)
    exact out (ea_i h 19 0) (ea_i h 19 1) (ea_i h 5 0) rfl rfl (by rw [w1]; exact hN) (tN T) 0 0 H1 (by omega) rfl I1
end SEA
