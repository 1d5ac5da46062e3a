/-! all that class and reference have in common; each call keeps it -/
def SIMp (h : ea_H) (n : Nat) (T : Nat → Nat → Nat → Nat) (m : Nat) (X G : Nat → Nat → Int) : Prop := ShC h ∧ ShM h ∧ SBas h n ∧ SRd h n ∧ SMis h ∧ STb h T ∧ SWyC h T ∧ SWyM h T n ∧ SCr h ∧ STp h ∧ SCk h ∧ SLe h n T m X G ∧ SAc h ∧ SBe h T m X G ∧ (∀ k, hI h 67 k = 0 ∨ hI h 67 k = 1) ∧ (∀ k, 0 ≤ hI h 347 k) ∧ ∀ l, l < m → hI h 373 l < hI h 326 25
def SIM (h : ea_H) : Prop := ∃ n T m X G, SIMp h n T m X G
def SIMk (h h' : ea_H) : Prop := SIM h' ∧ ea_core h' = ea_core h
section SM
variable {T : Nat → Nat → Nat → Nat} {G X X' : Nat → Nat → Int} {m n n' : Nat} {h h' : ea_H}
theorem tw_imp {α : Type} {A : Option (α × ea_H)} {B : ea_H → Option (α × ea_H)} {Q R : ea_H → Prop} (c : tw A B Q) (i : ∀ h', Q h' → R h') : tw A B R := sat_mono c fun _ hy => sat_mono hy fun _ hz => ⟨hz.1, i _ hz.2⟩
theorem SRd.mono (hn : n ≤ n') (c : SRd h n) : SRd h n' := by
  obtain ⟨w, D0, D1, c1, c2, c3⟩ := c
  exact ⟨w, D0, D1, c1, fun b d hb => c2 b d (by omega), c3⟩
theorem SAc.rb (c : SAc h) : hI h 23 1 = hI h 326 25 := by
  obtain ⟨k, u, ⟨a, b, -⟩, -⟩ := c
  exact a.trans b.symm
theorem sim_stopOf (s : SIM h) (x1 x2 x3 : Int32) : tw (qX11_stopOf x1 x2 x3 h) (qX12_stopOf x1 x2 x3) (SIMk h) := by
  have s0 := s
  obtain ⟨n, T, m, X, G, hC, hM, bs, rd, mi, tb, wc, wm, cr, tp, ck, sl, ac, be, o67, dy, la⟩ := s
  have hn12 := bs.2.2.2.2.2
  obtain ⟨sb, sh, nw, ss, sc, sf, sp, sr⟩ := id sl
  obtain ⟨hG, gc, gm, rc, rn, rm, -⟩ := id sb
  have hm := rc.1.2
  have same : ∀ h', h' = h → SIMk h h' := fun h' e => by
    rw [e]
    exact ⟨s0, rfl⟩
  exact tw_imp (call_stopOf tb mi x1 x2 x3) fun h' e => same h' e
theorem sim_fault (s : SIM h) (x1 : Int32) : tw (qX11_fault x1 h) (qX12_fault x1) (SIMk h) := by
  have s0 := s
  obtain ⟨n, T, m, X, G, hC, hM, bs, rd, mi, tb, wc, wm, cr, tp, ck, sl, ac, be, o67, dy, la⟩ := s
  have hn12 := bs.2.2.2.2.2
  obtain ⟨sb, sh, nw, ss, sc, sf, sp, sr⟩ := id sl
  obtain ⟨hG, gc, gm, rc, rn, rm, -⟩ := id sb
  have hm := rc.1.2
  have same : ∀ h', h' = h → SIMk h h' := fun h' e => by
    rw [e]
    exact ⟨s0, rfl⟩
  exact tw_imp (call_fault tp x1) fun h' e => same h' e
theorem sim_clock (s : SIM h) (x1 x2 : Int32) : tw (qX11_clock x1 x2 h) (qX12_clock x1 x2) (SIMk h) := by
  have s0 := s
  obtain ⟨n, T, m, X, G, hC, hM, bs, rd, mi, tb, wc, wm, cr, tp, ck, sl, ac, be, o67, dy, la⟩ := s
  have hn12 := bs.2.2.2.2.2
  obtain ⟨sb, sh, nw, ss, sc, sf, sp, sr⟩ := id sl
  obtain ⟨hG, gc, gm, rc, rn, rm, -⟩ := id sb
  have hm := rc.1.2
  have same : ∀ h', h' = h → SIMk h h' := fun h' e => by
    rw [e]
    exact ⟨s0, rfl⟩
  exact tw_imp (call_clock hC tb ck x1 x2) fun h' e => same h' e
theorem sim_trueMinute (s : SIM h) (x1 x2 x3 : Int32) : tw (qX11_trueMinute x1 x2 x3 h) (qX12_trueMinute x1 x2 x3) (SIMk h) := by
  have s0 := s
  obtain ⟨n, T, m, X, G, hC, hM, bs, rd, mi, tb, wc, wm, cr, tp, ck, sl, ac, be, o67, dy, la⟩ := s
  have hn12 := bs.2.2.2.2.2
  obtain ⟨sb, sh, nw, ss, sc, sf, sp, sr⟩ := id sl
  obtain ⟨hG, gc, gm, rc, rn, rm, -⟩ := id sb
  have hm := rc.1.2
  have same : ∀ h', h' = h → SIMk h h' := fun h' e => by
    rw [e]
    exact ⟨s0, rfl⟩
  exact tw_imp (call_trueMinute hC bs tb ck x1 x2 x3) fun h' e => same h' e
theorem sim_of (s : SIM h) (x1 x2 : Int32) : tw (qX11_of x1 x2 h) (qX12_of x1 x2) (SIMk h) := by
  have s0 := s
  obtain ⟨n, T, m, X, G, hC, hM, bs, rd, mi, tb, wc, wm, cr, tp, ck, sl, ac, be, o67, dy, la⟩ := s
  have hn12 := bs.2.2.2.2.2
  obtain ⟨sb, sh, nw, ss, sc, sf, sp, sr⟩ := id sl
  obtain ⟨hG, gc, gm, rc, rn, rm, -⟩ := id sb
  have hm := rc.1.2
  have same : ∀ h', h' = h → SIMk h h' := fun h' e => by
    rw [e]
    exact ⟨s0, rfl⟩
  exact tw_imp (call_of hC rc rm ss x1 x2) fun h' e => same h' e
theorem sim_look (s : SIM h) (x1 : Int32) : tw (qX11_look x1 h) (qX12_look x1) (SIMk h) := by
  have s0 := s
  obtain ⟨n, T, m, X, G, hC, hM, bs, rd, mi, tb, wc, wm, cr, tp, ck, sl, ac, be, o67, dy, la⟩ := s
  have hn12 := bs.2.2.2.2.2
  obtain ⟨sb, sh, nw, ss, sc, sf, sp, sr⟩ := id sl
  obtain ⟨hG, gc, gm, rc, rn, rm, -⟩ := id sb
  have hm := rc.1.2
  have same : ∀ h', h' = h → SIMk h h' := fun h' e => by
    rw [e]
    exact ⟨s0, rfl⟩
  exact tw_imp (call_look bs tb cr ac.rb rc rm x1) fun h' e => same h' e
theorem sim_run (s : SIM h) (x1 x2 x3 : Int32) : tw (qX11_run x1 x2 x3 h) (qX12_run_ x1 x2 x3) (SIMk h) := by
  have s0 := s
  obtain ⟨n, T, m, X, G, hC, hM, bs, rd, mi, tb, wc, wm, cr, tp, ck, sl, ac, be, o67, dy, la⟩ := s
  have hn12 := bs.2.2.2.2.2
  obtain ⟨sb, sh, nw, ss, sc, sf, sp, sr⟩ := id sl
  obtain ⟨hG, gc, gm, rc, rn, rm, -⟩ := id sb
  have hm := rc.1.2
  have same : ∀ h', h' = h → SIMk h h' := fun h' e => by
    rw [e]
    exact ⟨s0, rfl⟩
  exact tw_imp (call_run bs tb rc rm x1 x2 x3) fun h' e => same h' e
theorem sim_charge (s : SIM h) (x1 x2 : Int32) : tw (qX11_charge x1 x2 h) (qX12_charge x1 x2) (SIMk h) := by
  have s0 := s
  obtain ⟨n, T, m, X, G, hC, hM, bs, rd, mi, tb, wc, wm, cr, tp, ck, sl, ac, be, o67, dy, la⟩ := s
  have hn12 := bs.2.2.2.2.2
  obtain ⟨sb, sh, nw, ss, sc, sf, sp, sr⟩ := id sl
  obtain ⟨hG, gc, gm, rc, rn, rm, -⟩ := id sb
  have hm := rc.1.2
  have same : ∀ h', h' = h → SIMk h h' := fun h' e => by
    rw [e]
    exact ⟨s0, rfl⟩
  exact tw_imp (call_charge hC rc rm ss sc x1 x2) fun h' e => same h' e
theorem sim_account (s : SIM h) (x1 x2 x3 : Int32) : tw (qX11_account x1 x2 x3 h) (qX12_account x1 x2 x3) (SIMk h) := by
  have s0 := s
  obtain ⟨n, T, m, X, G, hC, hM, bs, rd, mi, tb, wc, wm, cr, tp, ck, sl, ac, be, o67, dy, la⟩ := s
  have hn12 := bs.2.2.2.2.2
  obtain ⟨sb, sh, nw, ss, sc, sf, sp, sr⟩ := id sl
  obtain ⟨hG, gc, gm, rc, rn, rm, -⟩ := id sb
  have hm := rc.1.2
  have same : ∀ h', h' = h → SIMk h h' := fun h' e => by
    rw [e]
    exact ⟨s0, rfl⟩
  exact tw_imp (call_account hC bs rc rm ss sc x1 x2 x3) fun h' e => same h' e
theorem sim_order (s : SIM h) (x1 x2 : Int32) : tw (qX11_order x1 x2 h) (qX12_order x1 x2) (SIMk h) := by
  have s0 := s
  obtain ⟨n, T, m, X, G, hC, hM, bs, rd, mi, tb, wc, wm, cr, tp, ck, sl, ac, be, o67, dy, la⟩ := s
  have hn12 := bs.2.2.2.2.2
  obtain ⟨sb, sh, nw, ss, sc, sf, sp, sr⟩ := id sl
  obtain ⟨hG, gc, gm, rc, rn, rm, -⟩ := id sb
  have hm := rc.1.2
  have same : ∀ h', h' = h → SIMk h h' := fun h' e => by
    rw [e]
    exact ⟨s0, rfl⟩
  exact tw_imp (call_order hC rc rm sp x1 x2) fun h' e => same h' e
theorem sim_robbery (s : SIM h) (x1 x2 : Int32) : tw (qX11_robbery x1 x2 h) (qX12_robbery x1 x2) (SIMk h) := by
  have s0 := s
  obtain ⟨n, T, m, X, G, hC, hM, bs, rd, mi, tb, wc, wm, cr, tp, ck, sl, ac, be, o67, dy, la⟩ := s
  have hn12 := bs.2.2.2.2.2
  obtain ⟨sb, sh, nw, ss, sc, sf, sp, sr⟩ := id sl
  obtain ⟨hG, gc, gm, rc, rn, rm, -⟩ := id sb
  have hm := rc.1.2
  have same : ∀ h', h' = h → SIMk h h' := fun h' e => by
    rw [e]
    exact ⟨s0, rfl⟩
  exact tw_imp (call_robbery hC rc ss sc sr x1 x2) fun h' e => same h' e
theorem sim_inForce (s : SIM h) (x1 x2 : Int32) : tw (qX11_inForce x1 x2 h) (qX12_inForce x1 x2) (SIMk h) := by
  have s0 := s
  obtain ⟨n, T, m, X, G, hC, hM, bs, rd, mi, tb, wc, wm, cr, tp, ck, sl, ac, be, o67, dy, la⟩ := s
  have hn12 := bs.2.2.2.2.2
  obtain ⟨sb, sh, nw, ss, sc, sf, sp, sr⟩ := id sl
  obtain ⟨hG, gc, gm, rc, rn, rm, -⟩ := id sb
  have hm := rc.1.2
  have same : ∀ h', h' = h → SIMk h h' := fun h' e => by
    rw [e]
    exact ⟨s0, rfl⟩
  exact tw_imp (call_inForce hC ac x1 x2) fun h' e => same h' e
theorem sim_miles (s : SIM h) (x1 x2 : Int32) : tw (qX11_miles x1 x2 h) (qX12_miles x1 x2) (SIMk h) := by
  have s0 := s
  obtain ⟨n, T, m, X, G, hC, hM, bs, rd, mi, tb, wc, wm, cr, tp, ck, sl, ac, be, o67, dy, la⟩ := s
  have hn12 := bs.2.2.2.2.2
  obtain ⟨sb, sh, nw, ss, sc, sf, sp, sr⟩ := id sl
  obtain ⟨hG, gc, gm, rc, rn, rm, -⟩ := id sb
  have hm := rc.1.2
  have same : ∀ h', h' = h → SIMk h h' := fun h' e => by
    rw [e]
    exact ⟨s0, rfl⟩
  refine tw_imp (call_miles bs rd x1 x2) fun h' q => ?_
  have F := q
  exact ⟨⟨n, T, m, X, G, ShC_core F.1 hC, ShM_core F.1 hM, bs.kq (F.kq rfl), rd.kq (F.kq rfl), mi.kq (F.kq rfl), tb.kq (F.kq rfl), wc.kq (F.kq rfl), SWyM.kq hn12 (F.kq rfl) wm, cr.kq (F.kq rfl), tp.kq (F.kq rfl), SCk.kq (Int.le_of_eq (F.I 326 rfl 0 rfl).symm) (F.kq rfl) ck, SLe.keep (F.kq rfl) (Nat.le_refl _) sl, ac.kq (F.kq rfl), SBe.kq (F.kq rfl) (fun _ _ _ => rfl) be, fun k => or01 (F.C 67 rfl rfl k) (o67 k), fun k => Int.le_trans (dy k) (Int.le_of_eq (F.C 347 rfl rfl k).symm), fun l hl => Int.lt_of_le_of_lt (Int.le_of_eq (F.C 373 rfl rfl l)) (Int.lt_of_lt_of_le (la l hl) (Int.le_of_eq (F.I 326 rfl 25 rfl).symm))⟩, F.1⟩
theorem sim_road (s : SIM h) (x1 x2 x3 : Int32) : tw (qX11_road x1 x2 x3 h) (qX12_road x1 x2 x3) (SIMk h) := by
  have s0 := s
  obtain ⟨n, T, m, X, G, hC, hM, bs, rd, mi, tb, wc, wm, cr, tp, ck, sl, ac, be, o67, dy, la⟩ := s
  have hn12 := bs.2.2.2.2.2
  obtain ⟨sb, sh, nw, ss, sc, sf, sp, sr⟩ := id sl
  obtain ⟨hG, gc, gm, rc, rn, rm, -⟩ := id sb
  have hm := rc.1.2
  have same : ∀ h', h' = h → SIMk h h' := fun h' e => by
    rw [e]
    exact ⟨s0, rfl⟩
  refine tw_imp (call_road hC bs rd x1 x2 x3) fun h' q => ?_
  obtain ⟨F, rd2⟩ := q
  exact ⟨⟨n, T, m, X, G, ShC_core F.1 hC, ShM_core F.1 hM, bs.kq (F.kq rfl), rd2, mi.kq (F.kq rfl), tb.kq (F.kq rfl), wc.kq (F.kq rfl), SWyM.kq hn12 (F.kq rfl) wm, cr.kq (F.kq rfl), tp.kq (F.kq rfl), SCk.kq (Int.le_of_eq (F.I 326 rfl 0 rfl).symm) (F.kq rfl) ck, SLe.keep (F.kq rfl) (Nat.le_refl _) sl, ac.kq (F.kq rfl), SBe.kq (F.kq rfl) (fun _ _ _ => rfl) be, fun k => or01 (F.C 67 rfl rfl k) (o67 k), fun k => Int.le_trans (dy k) (Int.le_of_eq (F.C 347 rfl rfl k).symm), fun l hl => Int.lt_of_le_of_lt (Int.le_of_eq (F.C 373 rfl rfl l)) (Int.lt_of_lt_of_le (la l hl) (Int.le_of_eq (F.I 326 rfl 25 rfl).symm))⟩, F.1⟩
theorem sim_feed (s : SIM h) (x1 x2 x3 x4 x5 : Int32) : tw (qX11_feed x1 x2 x3 x4 x5 h) (qX12_feed x1 x2 x3 x4 x5) (SIMk h) := by
  have s0 := s
  obtain ⟨n, T, m, X, G, hC, hM, bs, rd, mi, tb, wc, wm, cr, tp, ck, sl, ac, be, o67, dy, la⟩ := s
  have hn12 := bs.2.2.2.2.2
  obtain ⟨sb, sh, nw, ss, sc, sf, sp, sr⟩ := id sl
  obtain ⟨hG, gc, gm, rc, rn, rm, -⟩ := id sb
  have hm := rc.1.2
  have same : ∀ h', h' = h → SIMk h h' := fun h' e => by
    rw [e]
    exact ⟨s0, rfl⟩
  refine tw_imp (call_feed tp x1 x2 x3 x4 x5) fun h' q => ?_
  obtain ⟨F, tp2⟩ := q
  exact ⟨⟨n, T, m, X, G, ShC_core F.1 hC, ShM_core F.1 hM, bs.kq (F.kq rfl), rd.kq (F.kq rfl), mi.kq (F.kq rfl), tb.kq (F.kq rfl), wc.kq (F.kq rfl), SWyM.kq hn12 (F.kq rfl) wm, cr.kq (F.kq rfl), tp2, SCk.kq (Int.le_of_eq (F.I 326 rfl 0 rfl).symm) (F.kq rfl) ck, SLe.keep (F.kq rfl) (Nat.le_refl _) sl, ac.kq (F.kq rfl), SBe.kq (F.kq rfl) (fun _ _ _ => rfl) be, fun k => or01 (F.C 67 rfl rfl k) (o67 k), fun k => Int.le_trans (dy k) (Int.le_of_eq (F.C 347 rfl rfl k).symm), fun l hl => Int.lt_of_le_of_lt (Int.le_of_eq (F.C 373 rfl rfl l)) (Int.lt_of_lt_of_le (la l hl) (Int.le_of_eq (F.I 326 rfl 25 rfl).symm))⟩, F.1⟩
theorem sim_end (s : SIM h) (x1 : Int32) : tw (qX11_end x1 h) (qX12_end x1) (SIMk h) := by
  have s0 := s
  obtain ⟨n, T, m, X, G, hC, hM, bs, rd, mi, tb, wc, wm, cr, tp, ck, sl, ac, be, o67, dy, la⟩ := s
  have hn12 := bs.2.2.2.2.2
  obtain ⟨sb, sh, nw, ss, sc, sf, sp, sr⟩ := id sl
  obtain ⟨hG, gc, gm, rc, rn, rm, -⟩ := id sb
  have hm := rc.1.2
  have same : ∀ h', h' = h → SIMk h h' := fun h' e => by
    rw [e]
    exact ⟨s0, rfl⟩
  refine tw_imp (call_end tp x1) fun h' q => ?_
  obtain ⟨F, tp2⟩ := q
  exact ⟨⟨n, T, m, X, G, ShC_core F.1 hC, ShM_core F.1 hM, bs.kq (F.kq rfl), rd.kq (F.kq rfl), mi.kq (F.kq rfl), tb.kq (F.kq rfl), wc.kq (F.kq rfl), SWyM.kq hn12 (F.kq rfl) wm, cr.kq (F.kq rfl), tp2, SCk.kq (Int.le_of_eq (F.I 326 rfl 0 rfl).symm) (F.kq rfl) ck, SLe.keep (F.kq rfl) (Nat.le_refl _) sl, ac.kq (F.kq rfl), SBe.kq (F.kq rfl) (fun _ _ _ => rfl) be, fun k => or01 (F.C 67 rfl rfl k) (o67 k), fun k => Int.le_trans (dy k) (Int.le_of_eq (F.C 347 rfl rfl k).symm), fun l hl => Int.lt_of_le_of_lt (Int.le_of_eq (F.C 373 rfl rfl l)) (Int.lt_of_lt_of_le (la l hl) (Int.le_of_eq (F.I 326 rfl 25 rfl).symm))⟩, F.1⟩
theorem sim_set (s : SIM h) (x1 : Int32) : tw (qX11_set x1 h) (qX12_set x1) (SIMk h) := by
  have s0 := s
  obtain ⟨n, T, m, X, G, hC, hM, bs, rd, mi, tb, wc, wm, cr, tp, ck, sl, ac, be, o67, dy, la⟩ := s
  have hn12 := bs.2.2.2.2.2
  obtain ⟨sb, sh, nw, ss, sc, sf, sp, sr⟩ := id sl
  obtain ⟨hG, gc, gm, rc, rn, rm, -⟩ := id sb
  have hm := rc.1.2
  have same : ∀ h', h' = h → SIMk h h' := fun h' e => by
    rw [e]
    exact ⟨s0, rfl⟩
  refine tw_imp (call_set hC bs tb ck x1) fun h' q => ?_
  obtain ⟨F, ck2⟩ := q
  exact ⟨⟨n, T, m, X, G, ShC_core F.1 hC, ShM_core F.1 hM, bs.kq (F.kq rfl), rd.kq (F.kq rfl), mi.kq (F.kq rfl), tb.kq (F.kq rfl), wc.kq (F.kq rfl), SWyM.kq hn12 (F.kq rfl) wm, cr.kq (F.kq rfl), tp.kq (F.kq rfl), ck2, SLe.keep (F.kq rfl) (Nat.le_refl _) sl, ac.kq (F.kq rfl), SBe.kq (F.kq rfl) (fun _ _ _ => rfl) be, fun k => or01 (F.C 67 rfl rfl k) (o67 k), fun k => Int.le_trans (dy k) (Int.le_of_eq (F.C 347 rfl rfl k).symm), fun l hl => Int.lt_of_le_of_lt (Int.le_of_eq (F.C 373 rfl rfl l)) (Int.lt_of_lt_of_le (la l hl) (Int.le_of_eq (F.I 326 rfl 25 rfl).symm))⟩, F.1⟩
theorem sim_seen (s : SIM h) (x1 x2 : Int32) : tw (qX11_seen x1 x2 h) (qX12_seen x1 x2) (SIMk h) := by
  have s0 := s
  obtain ⟨n, T, m, X, G, hC, hM, bs, rd, mi, tb, wc, wm, cr, tp, ck, sl, ac, be, o67, dy, la⟩ := s
  have hn12 := bs.2.2.2.2.2
  obtain ⟨sb, sh, nw, ss, sc, sf, sp, sr⟩ := id sl
  obtain ⟨hG, gc, gm, rc, rn, rm, -⟩ := id sb
  have hm := rc.1.2
  have same : ∀ h', h' = h → SIMk h h' := fun h' e => by
    rw [e]
    exact ⟨s0, rfl⟩
  refine tw_imp (call_seen hC bs tb ck x1 x2) fun h' q => ?_
  obtain ⟨F, ck2⟩ := q
  exact ⟨⟨n, T, m, X, G, ShC_core F.1 hC, ShM_core F.1 hM, bs.kq (F.kq rfl), rd.kq (F.kq rfl), mi.kq (F.kq rfl), tb.kq (F.kq rfl), wc.kq (F.kq rfl), SWyM.kq hn12 (F.kq rfl) wm, cr.kq (F.kq rfl), tp.kq (F.kq rfl), ck2, SLe.keep (F.kq rfl) (Nat.le_refl _) sl, ac.kq (F.kq rfl), SBe.kq (F.kq rfl) (fun _ _ _ => rfl) be, fun k => or01 (F.C 67 rfl rfl k) (o67 k), fun k => Int.le_trans (dy k) (Int.le_of_eq (F.C 347 rfl rfl k).symm), fun l hl => Int.lt_of_le_of_lt (Int.le_of_eq (F.C 373 rfl rfl l)) (Int.lt_of_lt_of_le (la l hl) (Int.le_of_eq (F.I 326 rfl 25 rfl).symm))⟩, F.1⟩
theorem sim_lead (s : SIM h) (x1 x2 x3 : Int32) : tw (qX11_lead x1 x2 x3 h) (qX12_lead x1 x2 x3) (SIMk h) := by
  have s0 := s
  obtain ⟨n, T, m, X, G, hC, hM, bs, rd, mi, tb, wc, wm, cr, tp, ck, sl, ac, be, o67, dy, la⟩ := s
  have hn12 := bs.2.2.2.2.2
  obtain ⟨sb, sh, nw, ss, sc, sf, sp, sr⟩ := id sl
  obtain ⟨hG, gc, gm, rc, rn, rm, -⟩ := id sb
  have hm := rc.1.2
  have same : ∀ h', h' = h → SIMk h h' := fun h' e => by
    rw [e]
    exact ⟨s0, rfl⟩
  refine tw_imp (call_lead hC bs tb wc sb sh x1 x2 x3) fun h' q => ?_
  obtain ⟨F, wc2⟩ := q
  exact ⟨⟨n, T, m, X, G, ShC_core F.1 hC, ShM_core F.1 hM, bs.kq (F.kq rfl), rd.kq (F.kq rfl), mi.kq (F.kq rfl), tb.kq (F.kq rfl), wc2, SWyM.kq hn12 (F.kq rfl) wm, cr.kq (F.kq rfl), tp.kq (F.kq rfl), SCk.kq (Int.le_of_eq (F.I 326 rfl 0 rfl).symm) (F.kq rfl) ck, SLe.keep (F.kq rfl) (Nat.le_refl _) sl, ac.kq (F.kq rfl), SBe.kq (F.kq rfl) (fun _ _ _ => rfl) be, fun k => or01 (F.C 67 rfl rfl k) (o67 k), fun k => Int.le_trans (dy k) (Int.le_of_eq (F.C 347 rfl rfl k).symm), fun l hl => Int.lt_of_le_of_lt (Int.le_of_eq (F.C 373 rfl rfl l)) (Int.lt_of_lt_of_le (la l hl) (Int.le_of_eq (F.I 326 rfl 25 rfl).symm))⟩, F.1⟩
theorem sim_where (s : SIM h) (x1 x2 x3 : Int32) : tw (qX11_where x1 x2 x3 h) (qX12_where x1 x2 x3) (SIMk h) := by
  have s0 := s
  obtain ⟨n, T, m, X, G, hC, hM, bs, rd, mi, tb, wc, wm, cr, tp, ck, sl, ac, be, o67, dy, la⟩ := s
  have hn12 := bs.2.2.2.2.2
  obtain ⟨sb, sh, nw, ss, sc, sf, sp, sr⟩ := id sl
  obtain ⟨hG, gc, gm, rc, rn, rm, -⟩ := id sb
  have hm := rc.1.2
  have same : ∀ h', h' = h → SIMk h h' := fun h' e => by
    rw [e]
    exact ⟨s0, rfl⟩
  refine tw_imp (call_where hC bs tb wc sb ss sh x1 x2 x3) fun h' q => ?_
  obtain ⟨F, wc2⟩ := q
  exact ⟨⟨n, T, m, X, G, ShC_core F.1 hC, ShM_core F.1 hM, bs.kq (F.kq rfl), rd.kq (F.kq rfl), mi.kq (F.kq rfl), tb.kq (F.kq rfl), wc2, SWyM.kq hn12 (F.kq rfl) wm, cr.kq (F.kq rfl), tp.kq (F.kq rfl), SCk.kq (Int.le_of_eq (F.I 326 rfl 0 rfl).symm) (F.kq rfl) ck, SLe.keep (F.kq rfl) (Nat.le_refl _) sl, ac.kq (F.kq rfl), SBe.kq (F.kq rfl) (fun _ _ _ => rfl) be, fun k => or01 (F.C 67 rfl rfl k) (o67 k), fun k => Int.le_trans (dy k) (Int.le_of_eq (F.C 347 rfl rfl k).symm), fun l hl => Int.lt_of_le_of_lt (Int.le_of_eq (F.C 373 rfl rfl l)) (Int.lt_of_lt_of_le (la l hl) (Int.le_of_eq (F.I 326 rfl 25 rfl).symm))⟩, F.1⟩
theorem sim_way (s : SIM h) (x1 x2 x3 x4 : Int32) : tw (qX11_way x1 x2 x3 x4 h) (qX12_way x1 x2 x3 x4) (SIMk h) := by
  have s0 := s
  obtain ⟨n, T, m, X, G, hC, hM, bs, rd, mi, tb, wc, wm, cr, tp, ck, sl, ac, be, o67, dy, la⟩ := s
  have hn12 := bs.2.2.2.2.2
  obtain ⟨sb, sh, nw, ss, sc, sf, sp, sr⟩ := id sl
  obtain ⟨hG, gc, gm, rc, rn, rm, -⟩ := id sb
  have hm := rc.1.2
  have same : ∀ h', h' = h → SIMk h h' := fun h' e => by
    rw [e]
    exact ⟨s0, rfl⟩
  refine tw_imp (call_way hC bs tb wc wm x1 x2 x3 x4) fun h' q => ?_
  obtain ⟨F, wc2, wm2⟩ := q
  exact ⟨⟨n, T, m, X, G, ShC_core F.1 hC, ShM_core F.1 hM, bs.kq (F.kq rfl), rd.kq (F.kq rfl), mi.kq (F.kq rfl), tb.kq (F.kq rfl), wc2, wm2, cr.kq (F.kq rfl), tp.kq (F.kq rfl), SCk.kq (Int.le_of_eq (F.I 326 rfl 0 rfl).symm) (F.kq rfl) ck, SLe.keep (F.kq rfl) (Nat.le_refl _) sl, ac.kq (F.kq rfl), SBe.kq (F.kq rfl) (fun _ _ _ => rfl) be, fun k => or01 (F.C 67 rfl rfl k) (o67 k), fun k => Int.le_trans (dy k) (Int.le_of_eq (F.C 347 rfl rfl k).symm), fun l hl => Int.lt_of_le_of_lt (Int.le_of_eq (F.C 373 rfl rfl l)) (Int.lt_of_lt_of_le (la l hl) (Int.le_of_eq (F.I 326 rfl 25 rfl).symm))⟩, F.1⟩
theorem sim_tried (s : SIM h) (x1 : Int32) : tw (qX11_tried x1 h) (qX12_tried x1) (SIMk h) := by
  have s0 := s
  obtain ⟨n, T, m, X, G, hC, hM, bs, rd, mi, tb, wc, wm, cr, tp, ck, sl, ac, be, o67, dy, la⟩ := s
  have hn12 := bs.2.2.2.2.2
  obtain ⟨sb, sh, nw, ss, sc, sf, sp, sr⟩ := id sl
  obtain ⟨hG, gc, gm, rc, rn, rm, -⟩ := id sb
  have hm := rc.1.2
  have same : ∀ h', h' = h → SIMk h h' := fun h' e => by
    rw [e]
    exact ⟨s0, rfl⟩
  refine tw_imp (call_tried hC rc rm ac sf x1) fun h' q => ?_
  have F := q
  exact ⟨⟨n, T, m, X, G, ShC_core F.1 hC, ShM_core F.1 hM, bs.kq (F.kq rfl), rd.kq (F.kq rfl), mi.kq (F.kq rfl), tb.kq (F.kq rfl), wc.kq (F.kq rfl), SWyM.kq hn12 (F.kq rfl) wm, cr.kq (F.kq rfl), tp.kq (F.kq rfl), SCk.kq (Int.le_of_eq (F.I 326 rfl 0 rfl).symm) (F.kq rfl) ck, SLe.keep (F.kq rfl) (Nat.le_refl _) sl, ac.kq (F.kq rfl), SBe.kq (F.kq rfl) (fun _ _ _ => rfl) be, fun k => or01 (F.C 67 rfl rfl k) (o67 k), fun k => Int.le_trans (dy k) (Int.le_of_eq (F.C 347 rfl rfl k).symm), fun l hl => Int.lt_of_le_of_lt (Int.le_of_eq (F.C 373 rfl rfl l)) (Int.lt_of_lt_of_le (la l hl) (Int.le_of_eq (F.I 326 rfl 25 rfl).symm))⟩, F.1⟩
theorem sim_whatIf (s : SIM h) (x1 x2 x3 : Int32) : tw (qX11_whatIf x1 x2 x3 h) (qX12_whatIf x1 x2 x3) (SIMk h) := by
  have s0 := s
  obtain ⟨n, T, m, X, G, hC, hM, bs, rd, mi, tb, wc, wm, cr, tp, ck, sl, ac, be, o67, dy, la⟩ := s
  have hn12 := bs.2.2.2.2.2
  obtain ⟨sb, sh, nw, ss, sc, sf, sp, sr⟩ := id sl
  obtain ⟨hG, gc, gm, rc, rn, rm, -⟩ := id sb
  have hm := rc.1.2
  have same : ∀ h', h' = h → SIMk h h' := fun h' e => by
    rw [e]
    exact ⟨s0, rfl⟩
  refine tw_imp (call_whatIf hC bs tb wc wm sl o67 x1 x2 x3) fun h' q => ?_
  obtain ⟨F, wc2, wm2, o2, X2, sl2, e7⟩ := q
  exact ⟨⟨n, T, m, X2, G, ShC_core F.1 hC, ShM_core F.1 hM, bs.kq (F.kq rfl), rd.kq (F.kq rfl), mi.kq (F.kq rfl), tb.kq (F.kq rfl), wc2, wm2, cr.kq (F.kq rfl), tp.kq (F.kq rfl), SCk.kq (Int.le_of_eq (F.I 326 rfl 0 rfl).symm) (F.kq rfl) ck, sl2, ac.kq (F.kq rfl), SBe.kq (F.kq rfl) (fun f hf k => e7 f (by omega) k) be, o2, fun k => Int.le_trans (dy k) (Int.le_of_eq (F.C 347 rfl rfl k).symm), fun l hl => Int.lt_of_le_of_lt (Int.le_of_eq (F.C 373 rfl rfl l)) (Int.lt_of_lt_of_le (la l hl) (Int.le_of_eq (F.I 326 rfl 25 rfl).symm))⟩, F.1⟩
theorem sim_seats (s : SIM h) (x1 : Int32) : tw (qX11_seats x1 h) (qX12_seats x1) (SIMk h) := by
  have s0 := s
  obtain ⟨n, T, m, X, G, hC, hM, bs, rd, mi, tb, wc, wm, cr, tp, ck, sl, ac, be, o67, dy, la⟩ := s
  have hn12 := bs.2.2.2.2.2
  obtain ⟨sb, sh, nw, ss, sc, sf, sp, sr⟩ := id sl
  obtain ⟨hG, gc, gm, rc, rn, rm, -⟩ := id sb
  have hm := rc.1.2
  have same : ∀ h', h' = h → SIMk h h' := fun h' e => by
    rw [e]
    exact ⟨s0, rfl⟩
  refine tw_imp (call_seats hC bs tb wc wm sl o67 be x1) fun h' q => ?_
  obtain ⟨F, wc2, wm2, o2, X2, sl2, e7, be2⟩ := q
  exact ⟨⟨n, T, m, X2, G, ShC_core F.1 hC, ShM_core F.1 hM, bs.kq (F.kq rfl), rd.kq (F.kq rfl), mi.kq (F.kq rfl), tb.kq (F.kq rfl), wc2, wm2, cr.kq (F.kq rfl), tp.kq (F.kq rfl), SCk.kq (Int.le_of_eq (F.I 326 rfl 0 rfl).symm) (F.kq rfl) ck, sl2, ac.kq (F.kq rfl), be2, o2, fun k => Int.le_trans (dy k) (Int.le_of_eq (F.C 347 rfl rfl k).symm), fun l hl => Int.lt_of_le_of_lt (Int.le_of_eq (F.C 373 rfl rfl l)) (Int.lt_of_lt_of_le (la l hl) (Int.le_of_eq (F.I 326 rfl 25 rfl).symm))⟩, F.1⟩
theorem sim_town (s : SIM h) : tw (qX11_town h) qX12_town (SIMk h) := by
  have s0 := s
  obtain ⟨n, T, m, X, G, hC, hM, bs, rd, mi, tb, wc, wm, cr, tp, ck, sl, ac, be, o67, dy, la⟩ := s
  have hn12 := bs.2.2.2.2.2
  obtain ⟨sb, sh, nw, ss, sc, sf, sp, sr⟩ := id sl
  obtain ⟨hG, gc, gm, rc, rn, rm, -⟩ := id sb
  have hm := rc.1.2
  have same : ∀ h', h' = h → SIMk h h' := fun h' e => by
    rw [e]
    exact ⟨s0, rfl⟩
  refine tw_imp (call_town bs ) fun h' q => ?_
  obtain ⟨F, n2, hn2, bs2, k⟩ := q
  exact ⟨⟨n2, T, m, X, G, ShC_core F.1 hC, ShM_core F.1 hM, bs2, SRd.mono hn2 (rd.kq (F.kq rfl)), mi.kq (F.kq rfl), tb.kq (F.kq rfl), wc.kq (F.kq rfl), by
      rcases k with ⟨k1, k2⟩ | k
      · rw [k1, k2]
        exact wm
      · exact Or.inl k, cr.kq (F.kq rfl), tp.kq (F.kq rfl), SCk.kq (Int.le_of_eq (F.I 326 rfl 0 rfl).symm) (F.kq rfl) ck, SLe.keep (F.kq rfl) hn2 sl, ac.kq (F.kq rfl), SBe.kq (F.kq rfl) (fun _ _ _ => rfl) be, fun k => or01 (F.C 67 rfl rfl k) (o67 k), fun k => Int.le_trans (dy k) (Int.le_of_eq (F.C 347 rfl rfl k).symm), fun l hl => Int.lt_of_le_of_lt (Int.le_of_eq (F.C 373 rfl rfl l)) (Int.lt_of_lt_of_le (la l hl) (Int.le_of_eq (F.I 326 rfl 25 rfl).symm))⟩, F.1⟩
theorem sim_train (s : SIM h) : tw (qX11_train h) qX12_train (SIMk h) := by
  have s0 := s
  obtain ⟨n, T, m, X, G, hC, hM, bs, rd, mi, tb, wc, wm, cr, tp, ck, sl, ac, be, o67, dy, la⟩ := s
  have hn12 := bs.2.2.2.2.2
  obtain ⟨sb, sh, nw, ss, sc, sf, sp, sr⟩ := id sl
  obtain ⟨hG, gc, gm, rc, rn, rm, -⟩ := id sb
  have hm := rc.1.2
  have same : ∀ h', h' = h → SIMk h h' := fun h' e => by
    rw [e]
    exact ⟨s0, rfl⟩
  refine tw_imp (call_train tb wc ) fun h' q => ?_
  obtain ⟨F, e | ⟨e15, e12, tb2, wc2⟩⟩ := q
  · exact same h' e
  · exact ⟨⟨n, tNew T, m, X, G, ShC_core F.1 hC, ShM_core F.1 hM, bs.kq (F.kq rfl), rd.kq (F.kq rfl), mi.kq (F.kq rfl), tb2, wc2, Or.inl e12, cr.kq (F.kq rfl), tp.kq (F.kq rfl), SCk.kq (Int.le_of_eq (F.I 326 rfl 0 rfl).symm) (F.kq rfl) ck, SLe.keep (F.kq rfl) (Nat.le_refl _) (tNew_le tb.1 tb2.1 bs.2.1 sl), ac.kq (F.kq rfl), Or.inl e15, fun k => or01 (F.C 67 rfl rfl k) (o67 k), fun k => Int.le_trans (dy k) (Int.le_of_eq (F.C 347 rfl rfl k).symm), fun l hl => Int.lt_of_le_of_lt (Int.le_of_eq (F.C 373 rfl rfl l)) (Int.lt_of_lt_of_le (la l hl) (Int.le_of_eq (F.I 326 rfl 25 rfl).symm))⟩, F.1⟩
theorem sim_late (s : SIM h) (x1 x2 x3 : Int32) : tw (qX11_late x1 x2 x3 h) (qX12_late x1 x2 x3) (SIMk h) := by
  have s0 := s
  obtain ⟨n, T, m, X, G, hC, hM, bs, rd, mi, tb, wc, wm, cr, tp, ck, sl, ac, be, o67, dy, la⟩ := s
  have hn12 := bs.2.2.2.2.2
  obtain ⟨sb, sh, nw, ss, sc, sf, sp, sr⟩ := id sl
  obtain ⟨hG, gc, gm, rc, rn, rm, -⟩ := id sb
  have hm := rc.1.2
  have same : ∀ h', h' = h → SIMk h h' := fun h' e => by
    rw [e]
    exact ⟨s0, rfl⟩
  refine tw_imp (call_late bs tb x1 x2 x3) fun h' q => ?_
  obtain ⟨F, e | ⟨t, d, k, lc, tb2, e13, e15, e12⟩⟩ := q
  · exact same h' e
  · exact ⟨⟨n, tLat T t d k, m, X, G, ShC_core F.1 hC, ShM_core F.1 hM, bs.kq (F.kq rfl), rd.kq (F.kq rfl), mi.kq (F.kq rfl), tb2, Or.inl e13, Or.inl e12, cr.kq (F.kq rfl), tp.kq (F.kq rfl), SCk.kq (Int.le_of_eq (F.I 326 rfl 0 rfl).symm) (F.kq rfl) ck, SLe.keep (F.kq rfl) (Nat.le_refl _) (tLat_le tb.1 tb2.1 bs.2.1 lc sl), ac.kq (F.kq rfl), Or.inl e15, fun k => or01 (F.C 67 rfl rfl k) (o67 k), fun k => Int.le_trans (dy k) (Int.le_of_eq (F.C 347 rfl rfl k).symm), fun l hl => Int.lt_of_le_of_lt (Int.le_of_eq (F.C 373 rfl rfl l)) (Int.lt_of_lt_of_le (la l hl) (Int.le_of_eq (F.I 326 rfl 25 rfl).symm))⟩, F.1⟩
theorem sim_stop (s : SIM h) (x1 x2 x3 x4 x5 : Int32) (h5 : x5 = 0 ∨ x5 = 1) : tw (qX11_stop x1 x2 x3 x4 x5 h) (qX12_stop x1 x2 x3 x4 x5) (SIMk h) := by
  have s0 := s
  obtain ⟨n, T, m, X, G, hC, hM, bs, rd, mi, tb, wc, wm, cr, tp, ck, sl, ac, be, o67, dy, la⟩ := s
  have hn12 := bs.2.2.2.2.2
  obtain ⟨sb, sh, nw, ss, sc, sf, sp, sr⟩ := id sl
  obtain ⟨hG, gc, gm, rc, rn, rm, -⟩ := id sb
  have hm := rc.1.2
  have same : ∀ h', h' = h → SIMk h h' := fun h' e => by
    rw [e]
    exact ⟨s0, rfl⟩
  refine tw_imp (call_stop bs tb mi x1 x2 x3 x4 x5 h5) fun h' q => ?_
  obtain ⟨F, e | ⟨t, a, c, g, z, tb2, mi2, e13, e15, e12⟩⟩ := q
  · exact same h' e
  · exact ⟨⟨n, tAdd T t a c g, m, X, G, ShC_core F.1 hC, ShM_core F.1 hM, bs.kq (F.kq rfl), rd.kq (F.kq rfl), mi2, tb2, Or.inl e13, Or.inl e12, cr.kq (F.kq rfl), tp.kq (F.kq rfl), SCk.kq (Int.le_of_eq (F.I 326 rfl 0 rfl).symm) (F.kq rfl) ck, SLe.keep (F.kq rfl) (Nat.le_refl _) (tAdd_le tb2.1 z sl), ac.kq (F.kq rfl), Or.inl e15, fun k => or01 (F.C 67 rfl rfl k) (o67 k), fun k => Int.le_trans (dy k) (Int.le_of_eq (F.C 347 rfl rfl k).symm), fun l hl => Int.lt_of_le_of_lt (Int.le_of_eq (F.C 373 rfl rfl l)) (Int.lt_of_lt_of_le (la l hl) (Int.le_of_eq (F.I 326 rfl 25 rfl).symm))⟩, F.1⟩
theorem sim_miss (s : SIM h) (x1 x2 x3 : Int32) : tw (qX11_miss x1 x2 x3 h) (qX12_miss x1 x2 x3) (SIMk h) := by
  have s0 := s
  obtain ⟨n, T, m, X, G, hC, hM, bs, rd, mi, tb, wc, wm, cr, tp, ck, sl, ac, be, o67, dy, la⟩ := s
  have hn12 := bs.2.2.2.2.2
  obtain ⟨sb, sh, nw, ss, sc, sf, sp, sr⟩ := id sl
  obtain ⟨hG, gc, gm, rc, rn, rm, -⟩ := id sb
  have hm := rc.1.2
  have same : ∀ h', h' = h → SIMk h h' := fun h' e => by
    rw [e]
    exact ⟨s0, rfl⟩
  refine tw_imp (call_miss bs tb mi x1 x2 x3) fun h' q => ?_
  obtain ⟨F, e | ⟨mi2, e15⟩⟩ := q
  · exact same h' e
  · obtain ⟨G2, sl2⟩ := sl.mis (F.kq rfl) mi2
    exact ⟨⟨n, T, m, X, G2, ShC_core F.1 hC, ShM_core F.1 hM, bs.kq (F.kq rfl), rd.kq (F.kq rfl), mi2, tb.kq (F.kq rfl), wc.kq (F.kq rfl), SWyM.kq hn12 (F.kq rfl) wm, cr.kq (F.kq rfl), tp.kq (F.kq rfl), SCk.kq (Int.le_of_eq (F.I 326 rfl 0 rfl).symm) (F.kq rfl) ck, sl2, ac.kq (F.kq rfl), Or.inl e15, fun k => or01 (F.C 67 rfl rfl k) (o67 k), fun k => Int.le_trans (dy k) (Int.le_of_eq (F.C 347 rfl rfl k).symm), fun l hl => Int.lt_of_le_of_lt (Int.le_of_eq (F.C 373 rfl rfl l)) (Int.lt_of_lt_of_le (la l hl) (Int.le_of_eq (F.I 326 rfl 25 rfl).symm))⟩, F.1⟩
theorem sim_sorter (s : SIM h) (x1 x2 : Int32) : tw (qX11_sorter x1 x2 h) (qX12_sorter x1 x2) (SIMk h) := by
  have s0 := s
  obtain ⟨n, T, m, X, G, hC, hM, bs, rd, mi, tb, wc, wm, cr, tp, ck, sl, ac, be, o67, dy, la⟩ := s
  have hn12 := bs.2.2.2.2.2
  obtain ⟨sb, sh, nw, ss, sc, sf, sp, sr⟩ := id sl
  obtain ⟨hG, gc, gm, rc, rn, rm, -⟩ := id sb
  have hm := rc.1.2
  have same : ∀ h', h' = h → SIMk h h' := fun h' e => by
    rw [e]
    exact ⟨s0, rfl⟩
  refine tw_imp (call_sorter cr x1 x2) fun h' q => ?_
  obtain ⟨F, cr2, e | e15⟩ := q
  · exact same h' e
  · obtain ⟨G2, sl2⟩ := sl.crew (F.kq rfl) cr2
    exact ⟨⟨n, T, m, X, G2, ShC_core F.1 hC, ShM_core F.1 hM, bs.kq (F.kq rfl), rd.kq (F.kq rfl), mi.kq (F.kq rfl), tb.kq (F.kq rfl), wc.kq (F.kq rfl), SWyM.kq hn12 (F.kq rfl) wm, cr2, tp.kq (F.kq rfl), SCk.kq (Int.le_of_eq (F.I 326 rfl 0 rfl).symm) (F.kq rfl) ck, sl2, ac.kq (F.kq rfl), Or.inl e15, fun k => or01 (F.C 67 rfl rfl k) (o67 k), fun k => Int.le_trans (dy k) (Int.le_of_eq (F.C 347 rfl rfl k).symm), fun l hl => Int.lt_of_le_of_lt (Int.le_of_eq (F.C 373 rfl rfl l)) (Int.lt_of_lt_of_le (la l hl) (Int.le_of_eq (F.I 326 rfl 25 rfl).symm))⟩, F.1⟩
theorem sim_seat (s : SIM h) (x1 x2 : Int32) : tw (qX11_seat x1 x2 h) (qX12_seat x1 x2) (SIMk h) := by
  have s0 := s
  obtain ⟨n, T, m, X, G, hC, hM, bs, rd, mi, tb, wc, wm, cr, tp, ck, sl, ac, be, o67, dy, la⟩ := s
  have hn12 := bs.2.2.2.2.2
  obtain ⟨sb, sh, nw, ss, sc, sf, sp, sr⟩ := id sl
  obtain ⟨hG, gc, gm, rc, rn, rm, -⟩ := id sb
  have hm := rc.1.2
  have same : ∀ h', h' = h → SIMk h h' := fun h' e => by
    rw [e]
    exact ⟨s0, rfl⟩
  refine tw_imp (call_seat tb cr x1 x2) fun h' q => ?_
  obtain ⟨F, cr2, e | e15⟩ := q
  · exact same h' e
  · obtain ⟨G2, sl2⟩ := sl.crew (F.kq rfl) cr2
    exact ⟨⟨n, T, m, X, G2, ShC_core F.1 hC, ShM_core F.1 hM, bs.kq (F.kq rfl), rd.kq (F.kq rfl), mi.kq (F.kq rfl), tb.kq (F.kq rfl), wc.kq (F.kq rfl), SWyM.kq hn12 (F.kq rfl) wm, cr2, tp.kq (F.kq rfl), SCk.kq (Int.le_of_eq (F.I 326 rfl 0 rfl).symm) (F.kq rfl) ck, sl2, ac.kq (F.kq rfl), Or.inl e15, fun k => or01 (F.C 67 rfl rfl k) (o67 k), fun k => Int.le_trans (dy k) (Int.le_of_eq (F.C 347 rfl rfl k).symm), fun l hl => Int.lt_of_le_of_lt (Int.le_of_eq (F.C 373 rfl rfl l)) (Int.lt_of_lt_of_le (la l hl) (Int.le_of_eq (F.I 326 rfl 25 rfl).symm))⟩, F.1⟩
theorem sim_minutes (s : SIM h) (x1 : Int32) : tw (qX11_minutes x1 h) (qX12_minutes x1) (SIMk h) := by
  have s0 := s
  obtain ⟨n, T, m, X, G, hC, hM, bs, rd, mi, tb, wc, wm, cr, tp, ck, sl, ac, be, o67, dy, la⟩ := s
  have hn12 := bs.2.2.2.2.2
  obtain ⟨sb, sh, nw, ss, sc, sf, sp, sr⟩ := id sl
  obtain ⟨hG, gc, gm, rc, rn, rm, -⟩ := id sb
  have hm := rc.1.2
  have same : ∀ h', h' = h → SIMk h h' := fun h' e => by
    rw [e]
    exact ⟨s0, rfl⟩
  refine tw_imp (call_minutes hC bs tb wc wm sb x1) fun h' q => ?_
  obtain ⟨F, e | ⟨e15, le, bs2, wc2, wm2, X2, sb2, L, p, hL, hp, eX⟩⟩ := q
  · exact same h' e
  · subst eX
    exact ⟨⟨n, T, m, _, G, ShC_core F.1 hC, ShM_core F.1 hM, bs2, rd.kq (F.kq rfl), mi.kq (F.kq rfl), tb.kq (F.kq rfl), wc2, wm2, cr.kq (F.kq rfl), tp.kq (F.kq rfl), SCk.kq le (F.kq rfl) ck, SLe.min tb.1 bs.2.1 bs2.2.2.1 le (F.kq rfl) hL hp sb2 sl, ac.kq (F.kq rfl), Or.inl e15, fun k => or01 (F.C 67 rfl rfl k) (o67 k), fun k => Int.le_trans (dy k) (Int.le_of_eq (F.C 347 rfl rfl k).symm), fun l hl => Int.lt_of_le_of_lt (Int.le_of_eq (F.C 373 rfl rfl l)) (Int.lt_of_lt_of_le (la l hl) (Int.le_of_eq (F.I 326 rfl 25 rfl).symm))⟩, F.1⟩
theorem sim_post (s : SIM h) (x1 x2 x3 x4 x5 x6 : Int32) : tw (qX11_post x1 x2 x3 x4 x5 x6 h) (qX12_post x1 x2 x3 x4 x5 x6) (SIMk h) := by
  have s0 := s
  obtain ⟨n, T, m, X, G, hC, hM, bs, rd, mi, tb, wc, wm, cr, tp, ck, sl, ac, be, o67, dy, la⟩ := s
  have hn12 := bs.2.2.2.2.2
  obtain ⟨sb, sh, nw, ss, sc, sf, sp, sr⟩ := id sl
  obtain ⟨hG, gc, gm, rc, rn, rm, -⟩ := id sb
  have hm := rc.1.2
  have same : ∀ h', h' = h → SIMk h h' := fun h' e => by
    rw [e]
    exact ⟨s0, rfl⟩
  refine tw_imp (call_post hC bs rd ac tb sl x1 x2 x3 x4 x5 x6) fun h' q => ?_
  obtain ⟨F, e | ⟨e15, la2, X2, G2, sl2⟩⟩ := q
  · exact same h' e
  · exact ⟨⟨n, T, m + 1, X2, G2, ShC_core F.1 hC, ShM_core F.1 hM, bs.kq (F.kq rfl), rd.kq (F.kq rfl), mi.kq (F.kq rfl), tb.kq (F.kq rfl), wc.kq (F.kq rfl), SWyM.kq hn12 (F.kq rfl) wm, cr.kq (F.kq rfl), tp.kq (F.kq rfl), SCk.kq (Int.le_of_eq (F.I 326 rfl 0 rfl).symm) (F.kq rfl) ck, sl2, ac.kq (F.kq rfl), Or.inl e15, fun k => or01 (F.C 67 rfl rfl k) (o67 k), fun k => Int.le_trans (dy k) (Int.le_of_eq (F.C 347 rfl rfl k).symm), fun l hl => by
      by_cases z : l = m
      · rw [z]
        exact la2.1
      · rw [la2.2 l z, F.I 326 rfl 25 rfl]
        exact la l (by omega)⟩, F.1⟩
theorem sim_nobody (s : SIM h) (x1 : Int32) : tw (qX11_nobody x1 h) (qX12_nobody x1) (SIMk h) := by
  have s0 := s
  obtain ⟨n, T, m, X, G, hC, hM, bs, rd, mi, tb, wc, wm, cr, tp, ck, sl, ac, be, o67, dy, la⟩ := s
  have hn12 := bs.2.2.2.2.2
  obtain ⟨sb, sh, nw, ss, sc, sf, sp, sr⟩ := id sl
  obtain ⟨hG, gc, gm, rc, rn, rm, -⟩ := id sb
  have hm := rc.1.2
  have same : ∀ h', h' = h → SIMk h h' := fun h' e => by
    rw [e]
    exact ⟨s0, rfl⟩
  refine tw_imp (call_nobody hC sb nw x1) fun h' q => ?_
  obtain ⟨F, e | ⟨e15, nw2, G2, sb2⟩⟩ := q
  · exact same h' e
  · have le : ltE [0, 1, 2, 3, 4, 5, 6, 7, 8, 9, 10, 11, 12, 13, 14, 16, 17, 18] h h' := keq.lt (F.kq rfl : keq [] [((76, 315), 0, 14), ((76, 315), 16, 18)] h h') rfl
    have pl := keq.pl (F.kq rfl : keq [] [((76, 315), 0, 3)] h h') List.mem_cons_self
    exact ⟨⟨n, T, m, X, G2, ShC_core F.1 hC, ShM_core F.1 hM, bs.kq (F.kq rfl), rd.kq (F.kq rfl), mi.kq (F.kq rfl), tb.kq (F.kq rfl), wc.kq (F.kq rfl), SWyM.kq hn12 (F.kq rfl) wm, cr.kq (F.kq rfl), tp.kq (F.kq rfl), SCk.kq (Int.le_of_eq (F.I 326 rfl 0 rfl).symm) (F.kq rfl) ck, ⟨sb2, sh.lq hm (Int.le_of_eq (F.I 326 rfl 0 rfl).symm) (le.sub rfl), nw2, ss.lq hm (F.kq rfl) (le.sub rfl), sc.lq hm (F.kq rfl) (le.sub rfl), sf.lq hm (F.kq rfl) (le.sub rfl), sp.lq (F.kq rfl) (le.sub rfl) pl hm, sr.kq (F.kq rfl) fun l _ => Iff.rfl⟩, ac.kq (F.kq rfl), Or.inl e15, fun k => or01 (F.C 67 rfl rfl k) (o67 k), fun k => Int.le_trans (dy k) (Int.le_of_eq (F.C 347 rfl rfl k).symm), fun l hl => Int.lt_of_le_of_lt (Int.le_of_eq (F.C 373 rfl rfl l)) (Int.lt_of_lt_of_le (la l hl) (Int.le_of_eq (F.I 326 rfl 25 rfl).symm))⟩, F.1⟩
theorem sim_found (s : SIM h) (x1 x2 : Int32) : tw (qX11_found x1 x2 h) (qX12_found x1 x2) (SIMk h) := by
  have s0 := s
  obtain ⟨n, T, m, X, G, hC, hM, bs, rd, mi, tb, wc, wm, cr, tp, ck, sl, ac, be, o67, dy, la⟩ := s
  have hn12 := bs.2.2.2.2.2
  obtain ⟨sb, sh, nw, ss, sc, sf, sp, sr⟩ := id sl
  obtain ⟨hG, gc, gm, rc, rn, rm, -⟩ := id sb
  have hm := rc.1.2
  have same : ∀ h', h' = h → SIMk h h' := fun h' e => by
    rw [e]
    exact ⟨s0, rfl⟩
  refine tw_imp (call_found tb.1 hC bs sb sh sp nw x1 x2) fun h' q => ?_
  obtain ⟨F, e | ⟨e15, X2, sb2, sh2, nw2, r4⟩⟩ := q
  · exact same h' e
  · have le : ltE [0, 1, 2, 3, 4, 5, 6, 7, 8, 9, 10, 11, 12, 13, 14, 15, 18] h h' := keq.lt (F.kq rfl : keq [] [((76, 315), 0, 15), ((76, 315), 18, 18)] h h') rfl
    have pl := keq.pl (F.kq rfl : keq [] [((76, 315), 0, 3)] h h') List.mem_cons_self
    exact ⟨⟨n, T, m, X2, G, ShC_core F.1 hC, ShM_core F.1 hM, bs.kq (F.kq rfl), rd.kq (F.kq rfl), mi.kq (F.kq rfl), tb.kq (F.kq rfl), wc.kq (F.kq rfl), SWyM.kq hn12 (F.kq rfl) wm, cr.kq (F.kq rfl), tp.kq (F.kq rfl), SCk.kq (Int.le_of_eq (F.I 326 rfl 0 rfl).symm) (F.kq rfl) ck, ⟨sb2, sh2, nw2, ss.lq hm (F.kq rfl) (le.sub rfl), sc.lq hm (F.kq rfl) (le.sub rfl), sf.lq hm (F.kq rfl) (le.sub rfl), sp.lq (F.kq rfl) (le.sub rfl) pl hm, sr.kq (F.kq rfl) r4⟩, ac.kq (F.kq rfl), Or.inl e15, fun k => or01 (F.C 67 rfl rfl k) (o67 k), fun k => Int.le_trans (dy k) (Int.le_of_eq (F.C 347 rfl rfl k).symm), fun l hl => Int.lt_of_le_of_lt (Int.le_of_eq (F.C 373 rfl rfl l)) (Int.lt_of_lt_of_le (la l hl) (Int.le_of_eq (F.I 326 rfl 25 rfl).symm))⟩, F.1⟩
theorem sim_rob (s : SIM h) (x1 x2 : Int32) : tw (qX11_rob x1 x2 h) (qX12_rob x1 x2) (SIMk h) := by
  have s0 := s
  obtain ⟨n, T, m, X, G, hC, hM, bs, rd, mi, tb, wc, wm, cr, tp, ck, sl, ac, be, o67, dy, la⟩ := s
  have hn12 := bs.2.2.2.2.2
  obtain ⟨sb, sh, nw, ss, sc, sf, sp, sr⟩ := id sl
  obtain ⟨hG, gc, gm, rc, rn, rm, -⟩ := id sb
  have hm := rc.1.2
  have same : ∀ h', h' = h → SIMk h h' := fun h' e => by
    rw [e]
    exact ⟨s0, rfl⟩
  refine tw_imp (call_rob hC bs tb sb sh nw sr x1 x2) fun h' q => ?_
  obtain ⟨F, e | ⟨e15, X2, sb2, sh2, nw2, sr2⟩⟩ := q
  · exact same h' e
  · have le : ltE [0, 1, 2, 3, 4, 5, 6, 7, 8, 9, 10, 11, 12, 13, 14, 15, 18] h h' := keq.lt (F.kq rfl : keq [] [((76, 315), 0, 15), ((76, 315), 18, 18)] h h') rfl
    have pl := keq.pl (F.kq rfl : keq [] [((76, 315), 0, 3)] h h') List.mem_cons_self
    exact ⟨⟨n, T, m, X2, G, ShC_core F.1 hC, ShM_core F.1 hM, bs.kq (F.kq rfl), rd.kq (F.kq rfl), mi.kq (F.kq rfl), tb.kq (F.kq rfl), wc.kq (F.kq rfl), SWyM.kq hn12 (F.kq rfl) wm, cr.kq (F.kq rfl), tp.kq (F.kq rfl), SCk.kq (Int.le_of_eq (F.I 326 rfl 0 rfl).symm) (F.kq rfl) ck, ⟨sb2, sh2, nw2, ss.lq hm (F.kq rfl) (le.sub rfl), sc.lq hm (F.kq rfl) (le.sub rfl), sf.lq hm (F.kq rfl) (le.sub rfl), sp.lq (F.kq rfl) (le.sub rfl) pl hm, sr2⟩, ac.kq (F.kq rfl), Or.inl e15, fun k => or01 (F.C 67 rfl rfl k) (o67 k), fun k => Int.le_trans (dy k) (Int.le_of_eq (F.C 347 rfl rfl k).symm), fun l hl => Int.lt_of_le_of_lt (Int.le_of_eq (F.C 373 rfl rfl l)) (Int.lt_of_lt_of_le (la l hl) (Int.le_of_eq (F.I 326 rfl 25 rfl).symm))⟩, F.1⟩
theorem sim_place (s : SIM h) (x1 x2 x3 : Int32) : tw (qX11_place x1 x2 x3 h) (qX12_place x1 x2 x3) (SIMk h) := by
  have s0 := s
  obtain ⟨n, T, m, X, G, hC, hM, bs, rd, mi, tb, wc, wm, cr, tp, ck, sl, ac, be, o67, dy, la⟩ := s
  have hn12 := bs.2.2.2.2.2
  obtain ⟨sb, sh, nw, ss, sc, sf, sp, sr⟩ := id sl
  obtain ⟨hG, gc, gm, rc, rn, rm, -⟩ := id sb
  have hm := rc.1.2
  have same : ∀ h', h' = h → SIMk h h' := fun h' e => by
    rw [e]
    exact ⟨s0, rfl⟩
  refine tw_imp (call_place hC bs sb sp nw x1 x2 x3) fun h' q => ?_
  obtain ⟨F, le, sp2, nw2⟩ := q
  exact ⟨⟨n, T, m, X, G, ShC_core F.1 hC, ShM_core F.1 hM, bs.kq (F.kq rfl), rd.kq (F.kq rfl), mi.kq (F.kq rfl), tb.kq (F.kq rfl), wc.kq (F.kq rfl), SWyM.kq hn12 (F.kq rfl) wm, cr.kq (F.kq rfl), tp.kq (F.kq rfl), SCk.kq (Int.le_of_eq (F.I 326 rfl 0 rfl).symm) (F.kq rfl) ck, ⟨sb.kq (F.kq rfl) (le.sub rfl) (gc.lq (F.kq rfl) (le.sub rfl)) (gm.kq (F.kq rfl)), sh.lq hm (Int.le_of_eq (F.I 326 rfl 0 rfl).symm) (le.sub rfl), nw2, ss.lq hm (F.kq rfl) (le.sub rfl), sc.lq hm (F.kq rfl) (le.sub rfl), sf.lq hm (F.kq rfl) (le.sub rfl), sp2, sr.kq (F.kq rfl) fun l _ => Iff.rfl⟩, ac.kq (F.kq rfl), SBe.kq (F.kq rfl) (fun _ _ _ => rfl) be, fun k => or01 (F.C 67 rfl rfl k) (o67 k), fun k => Int.le_trans (dy k) (Int.le_of_eq (F.C 347 rfl rfl k).symm), fun l hl => Int.lt_of_le_of_lt (Int.le_of_eq (F.C 373 rfl rfl l)) (Int.lt_of_lt_of_le (la l hl) (Int.le_of_eq (F.I 326 rfl 25 rfl).symm))⟩, F.1⟩
end SM
