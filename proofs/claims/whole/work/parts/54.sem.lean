/-! the class takes a run -/
theorem bd_call {α β : Type} {A : Option α} {f : α → Option β} {x : α} (h : A = some x) : Option.bind A f = f x := by
  subst h
  rfl
def cLeav (gm : Nat → Nat → Nat → Nat) (tw : Nat → Nat → Nat) (h : ea_H) (S : List Nat) : Prop := ∀ s, s < 560 → 0 ≤ hJ h 15 s ∧ hJ h 15 s < 68719476736 ∧ ∀ to, to < 12 → dg (hJ h 15 s) to = wLv gm tw S s to
theorem wLv_zero {gm : Nat → Nat → Nat → Nat} {tw : Nat → Nat → Nat} {x : Nat} {S : List Nat} (h : wL (x :: S)) (hx : kGo x = 1) (to : Nat) : wLv gm tw S (kS x) to = 0 := by
  apply Decidable.byContradiction
  intro hne
  obtain ⟨y, y1, y2, y3⟩ := wLv_in hne
  have h1 := kS_inj h (List.mem_cons_of_mem _ y1) List.mem_cons_self y2 hx y3
  have h2 := wL_gt (P := []) h y y1
  omega
theorem kS_lt {x : Nat} (h : kT x < 10 ∧ kD x < 7) : kS x < 560 := by
  have := kI_lt x
  unfold kS kR
  omega
theorem c_ofs {y1 : Int64} {v : Nat} (e : y1.toInt = v) (h : ea_H) : (∃ w, qX10_trainOf y1 h = some (w, h) ∧ w.toInt = ((v / 512 % 16 : Nat) : Int)) ∧ (∃ w, qX10_dayOf y1 h = some (w, h) ∧ w.toInt = ((v / 64 % 8 : Nat) : Int)) ∧ (∃ w, qX10_takenOf y1 h = some (w, h) ∧ w.toInt = ((v / 8 % 8 : Nat) : Int)) ∧ ∃ w, qX10_leftOf y1 h = some (w, h) ∧ w.toInt = ((v % 8 : Nat) : Int) := by
  refine ⟨⟨_, rfl, ?_⟩, ⟨_, rfl, ?_⟩, ⟨_, rfl, ?_⟩, ⟨_, rfl, ?_⟩⟩
  · rw [s_lo15, s_shrJ_9, e]
    omega
  · rw [s_lo7, s_shrJ_6, e]
    omega
  · rw [s_lo7, s_shrJ_3, e]
    omega
  · rw [s_lo7, e]
    omega
theorem c_takenAt {T : Nat → Nat → Nat → Nat} (ok : tOk T) {L S : List Nat} (hL : tList T L) (hsub : ∀ x ∈ S, x ∈ L) (hS : wL S) (hl : S.length ≤ 1000) {h : ea_H} (c : CTab h T) {y1 : Int64} {a to : Nat} (e : y1.toInt = (wRS (tW T) S).2 a to) :
    ∃ w, qX10_takenAt y1 h = some (w, h) ∧ (((wRS (tW T) S).2 a to = NOW ∧ w.toInt = -1) ∨ ((wRS (tW T) S).2 a to ≠ NOW ∧ w.toInt = tGm T ((wRS (tW T) S).2 a to / 512 % 16) ((wRS (tW T) S).2 a to / 64 % 8) ((wRS (tW T) S).2 a to / 8 % 8))) ∧
      ((wRS (tW T) S).2 a to ≠ NOW → ∃ z f, (z, f) ∈ wG (tW T) S ∧ f to = (wRS (tW T) S).2 a to ∧ (wRS (tW T) S).2 a to / 512 % 16 = kT z ∧ (wRS (tW T) S).2 a to / 64 % 8 = kD z ∧ (wRS (tW T) S).2 a to / 8 % 8 = kI z) := by
  by_cases hN : (wRS (tW T) S).2 a to = NOW
  · refine ⟨-1, ?_, Or.inl ⟨hN, rfl⟩, fun q => absurd hN q⟩
    unfold qX10_takenAt BX10_takenAt_0
    rw [if_pos (by rw [lg_eq0, n_eqJ, e, hN]; rfl)]
  · rcases wS_at (tw := tW T) (S := S) a to with q | ⟨z, f, z1, z2, z3⟩
    · exact absurd q hN
    have hf : f to ≠ NOW := by rw [← z3]; exact hN
    obtain ⟨f1, f2, f3, -⟩ := wF hS z1 hf
    rw [← z3] at f1 f2 f3
    obtain ⟨k1, k2, k3, k4⟩ := (hL.2 z).mp (hsub z (wG_in z1).1)
    have hg := (wG_in z1).2
    have hn10 := ok.1
    have k5 : kI z < tS T (kT z) := by omega
    obtain ⟨⟨v1, q1, r1⟩, ⟨v2, q2, r2⟩, ⟨v3, q3, r3⟩, -⟩ := c_ofs e h
    rw [f1] at r1
    rw [f2] at r2
    rw [f3] at r3
    obtain ⟨v4, q4, r4⟩ := c_goesAt r1 r2 r3 c ok (by omega) k2 k5
    have hb := NOW_S hS hl a to hN
    have hNN := NOW_eq
    refine ⟨v4, ?_, Or.inr ⟨hN, by rw [f1, f2, f3]; exact r4⟩, fun _ => ⟨z, f, z1, z3.symm, f1, f2, f3⟩⟩
    unfold qX10_takenAt BX10_takenAt_0
    exact (if_neg (by rw [lg_eq0, n_eqJ, e, lJ_max]; omega)).trans ((bd_call q1).trans ((bd_call q2).trans ((bd_call q3).trans (bd_call q4))))
