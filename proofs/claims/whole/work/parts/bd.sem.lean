/-! act keeps all that both have in common; the law's loop, whole -/
section SA2
variable {h h' : ea_H} {T : Nat → Nat → Nat → Nat} {G X : Nat → Nat → Int} {m n : Nat}
theorem SLe.act {c : Int} (s : keq [(12, 12), (19, 21), (51, 51), (53, 61), (73, 75), (76, 315), (334, 334), (364, 390), (392, 394), (396, 403)] V_Le h h') (e : ∀ a : Nat, (a : Int) < c → hI h' 354 a = hI h 354 a) (la : ∀ l, l < m → hI h 373 l < c) (sl : SLe h n T m X G) : SLe h' n T m X G := by
  refine SLe.core (s.sub rfl rfl) rfl (fun _ => rfl) (fun _ => rfl) (sl.1.2.1.kq (s.sub rfl rfl)) ?_ sl
  obtain ⟨m2, k, ⟨a1, a2, a3, a4, a5, a6⟩, b, d, f⟩ := sl.1.2.2.1
  have e7 : G 7 0 = m := sl.1.1
  refine ⟨m2, k, ⟨a1, a2, a3, a4, (s.V 326 63 rfl).trans a5, (s.V 326 92 rfl).trans a6⟩, fun l hl => ?_, fun t d' i ht hd hi => (s.W 334 rfl _).trans (d t d' i ht hd hi), fun q hq => ?_⟩
  · rw [s.W 366 rfl, s.W 380 rfl, s.W 373 rfl]
    obtain ⟨b1, b2, b3⟩ := b l hl
    refine ⟨b1, b2, ?_⟩
    rcases b3 with b3 | ⟨a, b4, b5, b6, b7⟩
    · exact Or.inl b3
    · have := la l (by omega)
      exact Or.inr ⟨a, b4, b5, (e a (by omega)).trans b6, b7⟩
  · rw [s.W 392 rfl, s.W 393 rfl, s.W 394 rfl]
    exact f q hq
theorem sim_act (s : SIM h) (x1 : Int32) : tw (qX11_act x1 h) (qX12_act x1) (SIMk h) := by
  obtain ⟨n, T, m, X, G, hC, hM, bs, rd, mi, tb, wc, wm, cr, tp, ck, sl, ac, be, o67, dy, la⟩ := s
  have hn12 := bs.2.2.2.2.2
  obtain ⟨tn, t0, t1, t2, t3, -, -⟩ := tp
  obtain ⟨k, u0, ⟨a1, a2, a3⟩, ⟨a4, a5⟩, a6⟩ := ac
  have H : ∀ hB, fq [(26, 27), (31, 48)] [((23, 23), 1, 1), ((24, 24), 0, 9)] h hB → sat (qX11_act x1 h) fun y => sat (qX12_act x1 hB) fun z => AcPost h hB y z := fun hB F => by
    refine p_act (n := tn) (k := k) (u0 := u0) hC t0 ((F.I 326 rfl 52 rfl).trans t1) t2 (fun i hi => ?_) a1 ((F.I 326 rfl 25 rfl).trans a2) a3 a4 a5 (fun i hi => ?_) fun i => ?_
    · rw [F.C 362 rfl rfl i]
      exact t3 i hi
    · exact (a6 i hi).cg (fun _ _ _ _ => rfl) (fun a b1 b2 => (F.kq rfl : keq [(347, 358)] [] _ _).W a (inB_at (r := (347, 358)) List.mem_cons_self b1 (by show a ≤ 358; omega)) i) (fun j _ => F.C 356 rfl rfl _) (fun j _ => F.C 357 rfl rfl _) (fun q _ => St_eq (fun j => F.C 358 rfl rfl j) q) (fun _ _ => rfl) (Nat.le_refl _) (a6 i hi).2.1
    · rw [F.C 347 rfl rfl i]
      exact dy i
  have r : sat (qX11_act x1 h) fun yA => fq [(26, 27), (31, 48)] [((23, 23), 1, 1), ((24, 24), 0, 9)] h yA.2 := by
    obtain ⟨y, ey, z, -, q⟩ := H h (fq_rfl _ _ _)
    exact ⟨y, ey, q.2.1⟩
  refine sat_mono (tw_of2 (R := fun hB => fq [(26, 27), (31, 48)] [((23, 23), 1, 1), ((24, 24), 0, 9)] h hB) (Q := fun hB y z => AcPost h hB y z) H r) fun y hy => sat_mono hy fun z hz => ?_
  obtain ⟨e, fA, fB, ⟨b1, b2⟩, b3, b4, ⟨k', u', c1, c2, c3, c4, c5, c6⟩, c7, c8, c9⟩ := hz
  have F : fq [(26, 27), (31, 48), (347, 361)] [((23, 23), 1, 1), ((24, 24), 0, 9), ((326, 326), 25, 25), ((326, 326), 43, 62)] h z.2 := (fA.up rfl rfl).tr (fB.up rfl rfl)
  have y25 : hI y.2 326 25 = hI h 326 25 := fA.I 326 rfl 25 rfl
  have e354 : ∀ a : Nat, (a : Int) < hI h 326 25 → hI z.2 354 a = hI h 354 a := fun a ha => (c8 a (by omega)).trans (fA.C 354 rfl rfl a)
  refine ⟨e, ⟨n, T, m, X, G, ShC_core F.1 hC, ShM_core F.1 hM, bs.kq (F.kq rfl), rd.kq (F.kq rfl), mi.kq (F.kq rfl), tb.kq (F.kq rfl), wc.kq (F.kq rfl), SWyM.kq hn12 (F.kq rfl) wm, cr.kq (F.kq rfl), ?_, SCk.kq (Int.le_of_eq (F.I 326 rfl 0 rfl).symm) (F.kq rfl) ck, SLe.act (c := hI h 326 25) (F.kq rfl) e354 la sl, ?_, SBe.kq (F.kq rfl) (fun _ _ _ => rfl) be, fun k => or01 (F.C 67 rfl rfl k) (o67 k), c7, fun l hl => ?_⟩, F.1⟩
  · exact ⟨0, (fB.I 24 rfl 0 rfl).trans b1, b2, by decide, fun k hk => absurd hk (Nat.not_lt_zero k), (fB.I 24 rfl 1 rfl).trans b3, (fB.I 24 rfl 2 rfl).trans b4⟩
  · refine ⟨k', u', ⟨(fB.I 23 rfl 1 rfl).trans c1, c2, c3⟩, ⟨(fB.I 24 rfl 9 rfl).trans c4, c5⟩, fun i hi => ?_⟩
    exact (c6 i hi).cg (fun a j d1 d2 => (fB.kq rfl : keq [(31, 48)] [] _ _).W a (inB_at (r := (31, 48)) List.mem_cons_self (by show 31 ≤ a; omega) (by show a ≤ 48; omega)) j) (fun _ _ _ => rfl) (fun _ _ => rfl) (fun _ _ => rfl) (fun _ _ => rfl) (fun p _ => cd_fq fB rfl p) (Nat.le_refl _) (c6 i hi).2.1
  · have := la l hl
    rw [F.C 373 rfl rfl l]
    omega
theorem law_all {q : Nat × (Nat → Int32)} (hq : q.1 ≤ 2147483647) (eq : ea_q h = q) (s : SIM h) : sat (qL_law_18 0 h) fun y => y.1 = 1 := law_loop (fun _ s x1 => sim_act s x1) hq q.1 0 0 h eq s rfl (by omega)
end SA2
