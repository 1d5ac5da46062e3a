/-! the state of both: parts of it, and what each of them is told by -/
theorem sat_eti {α : Type} {c : Prop} {_ : Decidable c} {A B : Option α} {P : α → Prop} (h1 : ¬ c → sat B P) (h2 : c → sat A P) : sat (if c then A else B) P := sat_ite h2 h1
def tw {α : Type} (A : Option (α × ea_H)) (B : ea_H → Option (α × ea_H)) (Q : ea_H → Prop) : Prop := sat A fun y => sat (B y.2) fun z => y.1 = z.1 ∧ Q z.2
theorem t_exists (T : Nat → Nat → Nat → Nat) : ∃ L, tList T L := by
  refine ⟨(List.range 20643840).filter fun x => @decide (tKey T x) (Classical.propDecidable _), List.pairwise_lt_range.filter _, fun x => ?_⟩
  rw [List.mem_filter, List.mem_range]
  exact ⟨fun h => @of_decide_eq_true _ (Classical.propDecidable _) h.2, fun h => ⟨t_lt31 h, @decide_eq_true _ (Classical.propDecidable _) h⟩⟩
def SBas (h : ea_H) (n : Nat) : Prop := hI h 0 14 = hI h 326 0 ∧ 0 ≤ hI h 326 0 ∧ hI h 326 0 ≤ 10079 ∧ hI h 1 0 = n ∧ hI h 326 1 = n ∧ n ≤ 12
def V_Bas : List ((Nat × Nat) × Nat × Nat) := [((0, 0), 14, 14), ((326, 326), 0, 1), ((1, 1), 0, 0)]
theorem SBas.kq {h h' : ea_H} {n : Nat} (s : keq [] V_Bas h h') (c : SBas h n) : SBas h' n := by
  unfold SBas
  rw [s.V 0 14 rfl, s.V 326 0 rfl, s.V 326 1 rfl, s.V 1 0 rfl]
  exact c
def SRd (h : ea_H) (n : Nat) : Prop := ∃ w D0 D1 : Nat → Nat → Nat, (∀ b c, w b c ≤ 999) ∧ (∀ b c, n ≤ b ∨ n ≤ c → w b c = 0) ∧ MRoad h w ∧ (∀ a b, a < 12 → b < 12 → hI h 2 (12 * a + b) = ((if a = b then 0 else if w a b = 0 then 1000000 else w a b : Nat) : Int)) ∧ (fwI 0 12 w D0 ∧ ∀ a b, a < 12 → b < 12 → hI h 3 (12 * a + b) = D0 a b) ∧ fwI 1 12 w D1 ∧ ∀ a b, a < 12 → b < 12 → hI h 4 (12 * a + b) = D1 a b
theorem SRd.kq {h h' : ea_H} {n : Nat} (s : keq [(2, 4), (327, 327)] [] h h') (c : SRd h n) : SRd h' n := by
  obtain ⟨w, D0, D1, c1, c2, c3, c4, ⟨c5, c6⟩, c7, c8⟩ := c
  exact ⟨w, D0, D1, c1, c2, fun b c hb hc => (s.W 327 rfl _).trans (c3 b c hb hc), fun a b ha hb => (s.W 2 rfl _).trans (c4 a b ha hb), ⟨c5, fun a b ha hb => (s.W 3 rfl _).trans (c6 a b ha hb)⟩, c7, fun a b ha hb => (s.W 4 rfl _).trans (c8 a b ha hb)⟩
theorem SRd.up {h : ea_H} {n n' : Nat} (hn : n ≤ n') (c : SRd h n) : SRd h n' := by
  obtain ⟨w, D0, D1, c1, c2, c3⟩ := c
  exact ⟨w, D0, D1, c1, fun b c q => c2 b c (by omega), c3⟩
def SMis (h : ea_H) : Prop := (∀ k, k < 80 → hI h 10 k = hI h 333 k ∧ (hI h 333 k = 0 ∨ hI h 333 k = 1)) ∧ ∀ t d, t < 10 → d < 7 → ∃ M : Nat, hI h 12 (10 * d + t) = M ∧ M < 256 ∧ ∀ i, i < 8 → hI h 334 (8 * (7 * t + d) + i) = ((M / 2 ^ i % 2 : Nat) : Int)
theorem SMis.kq {h h' : ea_H} (s : keq [(10, 10), (12, 12), (333, 334)] [] h h') (c : SMis h) : SMis h' := by
  refine ⟨fun k hk => ?_, fun t d ht hd => ?_⟩
  · rw [s.W 10 rfl, s.W 333 rfl]
    exact c.1 k hk
  · obtain ⟨M, m1, m2, m3⟩ := c.2 t d ht hd
    exact ⟨M, (s.W 12 rfl _).trans m1, m2, fun i hi => (s.W 334 rfl _).trans (m3 i hi)⟩
def STb (h : ea_H) (T : Nat → Nat → Nat → Nat) : Prop := tOk T ∧ CTab h T ∧ MTab h T
def W_Tb : List (Nat × Nat) := [(6, 9), (11, 11), (328, 332)]
def V_Tb : List ((Nat × Nat) × Nat × Nat) := [((5, 5), 0, 0), ((326, 326), 2, 2)]
theorem STb.kq {h h' : ea_H} {T : Nat → Nat → Nat → Nat} (s : keq W_Tb V_Tb h h') (c : STb h T) : STb h' T := by
  obtain ⟨ok, ⟨c1, c2, c3, c4⟩, d1, d2, d3, d4⟩ := c
  refine ⟨ok, ⟨(s.V 5 0 rfl).trans c1, fun t ht => (s.W 6 rfl _).trans (c2 t ht), fun t i ht hi => ?_, fun t d ht hd => (s.W 11 rfl _).trans (c4 t d ht hd)⟩, (s.V 326 2 rfl).trans d1, fun t ht => (s.W 328 rfl _).trans (d2 t ht), fun t i ht hi => ?_, fun t d ht hd => (s.W 332 rfl _).trans (d4 t d ht hd)⟩
  · rw [s.W 7 rfl, s.W 8 rfl, s.W 9 rfl]
    exact c3 t i ht hi
  · rw [s.W 329 rfl, s.W 330 rfl, s.W 331 rfl]
    exact d3 t i ht hi
def SWyC (h : ea_H) (T : Nat → Nat → Nat → Nat) : Prop := hI h 13 0 = 0 ∨ hI h 13 0 = 1 ∧ WaysC T h
def SWyM (h : ea_H) (T : Nat → Nat → Nat → Nat) (n : Nat) : Prop := hI h 326 12 = 0 ∨ hI h 326 12 = 1 ∧ ∀ L, tList T L → WaysM T L n h
theorem SWyC.kq {h h' : ea_H} {T : Nat → Nat → Nat → Nat} (s : keq [(13, 15)] [] h h') (c : SWyC h T) : SWyC h' T := by
  rcases c with c | ⟨c, L, c1, c2, c3, c4⟩
  · exact Or.inl ((s.W 13 rfl 0).trans c)
  · refine Or.inr ⟨(s.W 13 rfl 0).trans c, L, c1, (s.W 13 rfl 1).trans c2, fun e he => (s.W 14 rfl e).trans (c3 e he), fun q hq => ?_⟩
    rw [s.2.2 15 rfl]
    exact c4 q hq
theorem SWyM.kq {h h' : ea_H} {T : Nat → Nat → Nat → Nat} {n : Nat} (hn : n ≤ 12) (s : keq [(336, 339), (341, 346)] [((326, 326), 12, 13)] h h') (c : SWyM h T n) : SWyM h' T n := by
  rcases c with c | ⟨c, c1⟩
  · exact Or.inl ((s.V 326 12 rfl).trans c)
  · refine Or.inr ⟨(s.V 326 12 rfl).trans c, fun L hL => ?_⟩
    obtain ⟨d1, d2, d3⟩ := c1 L hL
    refine ⟨⟨(s.V 326 13 rfl).trans d1.1, fun e he => ?_⟩, mRows_cg hn (fun j _ => ⟨s.W 341 rfl j, s.W 342 rfl j, s.W 343 rfl j, s.W 344 rfl j⟩) (fun j _ => s.W 345 rfl j) d2, fun a ha => ?_⟩
    · rw [s.W 336 rfl, s.W 337 rfl, s.W 338 rfl, s.W 339 rfl]
      exact d1.2 e he
    · rw [s.W 346 rfl]
      exact d3 a ha
def SCr (h : ea_H) : Prop := ∃ s : Nat, hI h 18 0 = s ∧ hI h 326 92 = s ∧ s ≤ 8 ∧ (∀ k, s ≤ k → k < 8 → hI h 394 k = -1) ∧ ∀ k, k < s → (hI h 20 k = hI h 392 k ∧ 1 ≤ hI h 392 k ∧ hI h 392 k ≤ 99) ∧ (hI h 21 k = hI h 393 k ∧ 0 ≤ hI h 393 k ∧ hI h 393 k < 4096) ∧ hI h 19 k = hI h 394 k ∧ -1 ≤ hI h 394 k ∧ hI h 394 k < 10
def V_Cr : List ((Nat × Nat) × Nat × Nat) := [((18, 18), 0, 0), ((326, 326), 92, 92)]
theorem SCr.kq {h h' : ea_H} (s : keq [(19, 21), (392, 394)] V_Cr h h') (c : SCr h) : SCr h' := by
  obtain ⟨n, c1, c2, c3, c5, c4⟩ := c
  refine ⟨n, (s.V 18 0 rfl).trans c1, (s.V 326 92 rfl).trans c2, c3, fun k hk hk8 => (s.W 394 rfl k).trans (c5 k hk hk8), fun k hk => ?_⟩
  rw [s.W 19 rfl, s.W 20 rfl, s.W 21 rfl, s.W 392 rfl, s.W 393 rfl, s.W 394 rfl]
  exact c4 k hk
def STp (h : ea_H) : Prop := ∃ n : Nat, hI h 24 0 = n ∧ hI h 326 52 = n ∧ n ≤ 600 ∧ (∀ k, k < n → hI h 25 k = hI h 362 k ∧ 0 ≤ hI h 362 k ∧ hI h 362 k < 256) ∧ hI h 24 1 = hI h 326 59 ∧ hI h 24 2 = hI h 326 62
def V_Tp : List ((Nat × Nat) × Nat × Nat) := [((24, 24), 0, 2), ((326, 326), 52, 52), ((326, 326), 59, 59), ((326, 326), 62, 62)]
theorem STp.kq {h h' : ea_H} (s : keq [(25, 25), (362, 362)] V_Tp h h') (c : STp h) : STp h' := by
  obtain ⟨n, c1, c2, c3, c4, c5, c6⟩ := c
  refine ⟨n, (s.V 24 0 rfl).trans c1, (s.V 326 52 rfl).trans c2, c3, fun k hk => ?_, ?_, ?_⟩
  · rw [s.W 25 rfl, s.W 362 rfl]
    exact c4 k hk
  · rw [s.V 24 1 rfl, s.V 326 59 rfl]
    exact c5
  · rw [s.V 24 2 rfl, s.V 326 62 rfl]
    exact c6
def SCk (h : ea_H) : Prop := ∀ t, t < 10 → hI h (316 + t) 0 = hI h 406 t ∧ (0 ≤ hI h 406 t ∧ hI h 406 t ≤ hI h 326 0) ∧ hI h (316 + t) 1 = hI h 404 t ∧ hI h (316 + t) 2 = hI h 405 t ∧ -60 ≤ hI h 404 t ∧ hI h 404 t ≤ hI h 405 t ∧ hI h 405 t ≤ 60
theorem inB_at {A : List (Nat × Nat)} {r : Nat × Nat} (hr : r ∈ A) {a : Nat} (h1 : r.1 ≤ a) (h2 : a ≤ r.2) : inB A a = true := inB_iff.mpr ⟨r, hr, h1, h2⟩
theorem SCk.kq {h h' : ea_H} (hn : hI h 326 0 ≤ hI h' 326 0) (s : keq [(316, 325), (404, 406)] [] h h') (c : SCk h) : SCk h' := by
  intro t ht
  have e : ∀ k, hI h' (316 + t) k = hI h (316 + t) k := fun k => s.W (316 + t) (inB_at List.mem_cons_self (by show 316 ≤ 316 + t; omega) (by show 316 + t ≤ 325; omega)) k
  obtain ⟨c1, ⟨c2, c3⟩, c4⟩ := c t ht
  rw [e, e, e, s.W 404 rfl, s.W 405 rfl, s.W 406 rfl]
  exact ⟨c1, ⟨c2, by omega⟩, c4⟩
