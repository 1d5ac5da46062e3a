/-! ways, purely, 2: where the best way that begins with a going leaves its run -/
def kS (x : Nat) : Nat := 8 * kR x + kI x
def wLv (gm : Nat → Nat → Nat → Nat) (ta : Nat → Nat → Nat) : List Nat → Nat → Nat → Nat
  | [], _, _ => 0
  | x :: S, s, to => if kGo x = 1 ∧ wTak (wRS ta S).1 x to < (wRS ta S).2 (kA ta x) to then
      (if s = kS x then wTak (wRS ta S).1 x to % 8 else if (wRS ta S).2 (kA ta x) to ≠ NOW ∧ gm ((wRS ta S).2 (kA ta x) to / 512 % 16) ((wRS ta S).2 (kA ta x) to / 64 % 8) ((wRS ta S).2 (kA ta x) to / 8 % 8) = kMin x ∧ s = 8 * (10 * ((wRS ta S).2 (kA ta x) to / 64 % 8) + (wRS ta S).2 (kA ta x) to / 512 % 16) + (wRS ta S).2 (kA ta x) to / 8 % 8 then 0 else wLv gm ta S s to)
    else wLv gm ta S s to
section WAYS2
variable {tw : Nat → Nat → Nat} {gm : Nat → Nat → Nat → Nat}
theorem wG_uniq {S : List Nat} (h : wL S) {z : Nat} {f f2 : Nat → Nat} (h1 : (z, f) ∈ wG tw S) (h2 : (z, f2) ∈ wG tw S) : f = f2 := by
  obtain ⟨P1, S1, e1, e2⟩ := wG_split h1
  obtain ⟨P2, S2, e3, e4⟩ := wG_split h2
  have hSS : S2 = S1 := by
    have a1 : ∀ y, y ∈ S1 ↔ y ∈ S ∧ z < y := fun y => ⟨fun hy => ⟨by rw [e1]; simp [hy], wL_gt (e1 ▸ h) y hy⟩, fun hy => wL_ff (e1 ▸ h) (e1 ▸ hy.1) hy.2⟩
    have a2 : ∀ y, y ∈ S2 ↔ y ∈ S ∧ z < y := fun y => ⟨fun hy => ⟨by rw [e3]; simp [hy], wL_gt (e3 ▸ h) y hy⟩, fun hy => wL_ff (e3 ▸ h) (e3 ▸ hy.1) hy.2⟩
    have p1 : S1.Pairwise (· < ·) := (List.pairwise_cons.mp (wL_tail (e1 ▸ h)).1).2
    have p2 : S2.Pairwise (· < ·) := (List.pairwise_cons.mp (wL_tail (e3 ▸ h)).1).2
    exact wSorted p2 p1 fun y => (a2 y).trans (a1 y).symm
  rw [e2, e4, hSS]
theorem kS_inj {S : List Nat} (h : wL S) {x y : Nat} (hx : x ∈ S) (hy : y ∈ S) (gx : kGo x = 1) (gy : kGo y = 1) (e : kS x = kS y) : x = y := by
  have i1 := kI_lt x
  have i2 := kI_lt y
  have e1 : kR x = kR y ∧ kI x = kI y := by
    unfold kS at e
    omega
  rcases Nat.lt_trichotomy x y with q | q | q
  · rcases h.2.2 x hx y hy e1.1 q with k | ⟨-, k, -⟩ <;> omega
  · exact q
  · rcases h.2.2 y hy x hx e1.1.symm q with k | ⟨-, k, -⟩ <;> omega
theorem wF {S : List Nat} (h : wL S) {z to : Nat} {f : Nat → Nat} (hz : (z, f) ∈ wG tw S) (hf : f to ≠ NOW) : f to / 512 % 16 = kT z ∧ f to / 64 % 8 = kD z ∧ f to / 8 % 8 = kI z ∧ 0 < f to % 8 ∧ ∃ P c S', S = P ++ c :: S' ∧ z < c ∧ kGo c ≠ 1 ∧ kT c = kT z ∧ kD c = kD z ∧ kI c = f to % 8 ∧
    ((to = kA tw c ∧ f to / 8192 = kMin c * 256 + 1) ∨ (to ≠ kA tw c ∧ (wRS tw S').2 (kA tw c) to ≠ NOW ∧ f to / 8192 = (wRS tw S').2 (kA tw c) to / 8192 + 1)) := by
  obtain ⟨P, c, S', e1, e2, e3, e4, e5, e6⟩ := wE h hz hf
  have hc : c ∈ S := by rw [e1]; simp
  have hk := kR_inj (h.2.1 c hc).1 (h.2.1 z (wG_in hz).1).1 e4
  have i1 := kI_lt z
  have i2 := kI_lt c
  have hzc := wL_lt (e1 ▸ h) z e2
  have t1 : kT z < 16 := by unfold kT; omega
  have t2 : kD z < 8 := by unfold kD; omega
  have hv : ∃ A, f to = A * 8192 + (kT z * 512 + kD z * 64 + kI z * 8 + kI c) ∧ ((to = kA tw c ∧ A = kMin c * 256 + 1) ∨ (to ≠ kA tw c ∧ (wRS tw S').2 (kA tw c) to ≠ NOW ∧ A = (wRS tw S').2 (kA tw c) to / 8192 + 1)) := by
    rcases e6 with ⟨a1, a2⟩ | ⟨a1, a2, a3⟩
    · exact ⟨_, a2, Or.inl ⟨a1, rfl⟩⟩
    · exact ⟨_, a3, Or.inr ⟨a1, a2, rfl⟩⟩
  obtain ⟨A, hA, hB⟩ := hv
  have hd : f to / 8192 = A := by omega
  refine ⟨by omega, by omega, by omega, by omega, P, c, S', e1, hzc, e3, hk.1, hk.2, by omega, ?_⟩
  rw [hd]
  exact hB
theorem wDist {S : List Nat} (h : wL S) {z z2 to : Nat} {f f2 : Nat → Nat} (hz : (z, f) ∈ wG tw S) (hz2 : (z2, f2) ∈ wG tw S) (hne : z ≠ z2) (hf : f to ≠ NOW) : f to ≠ f2 to := by
  intro e
  obtain ⟨a1, a2, a3, -⟩ := wF h hz hf
  obtain ⟨b1, b2, b3, -⟩ := wF h hz2 (e ▸ hf)
  rw [e] at a1 a2 a3
  refine hne (kS_inj h (wG_in hz).1 (wG_in hz2).1 (wG_in hz).2 (wG_in hz2).2 ?_)
  unfold kS kR
  omega
theorem wS_le_NOW {S : List Nat} (h : wL S) (hl : S.length ≤ 1000) (a to : Nat) : (wRS tw S).2 a to ≤ NOW := by
  by_cases e : (wRS tw S).2 a to = NOW
  · exact Nat.le_of_eq e
  · have := NOW_S h hl a to e
    rw [NOW_eq]
    omega
theorem wG_le_NOW {S : List Nat} (h : wL S) (hl : S.length ≤ 1000) {z to : Nat} {f : Nat → Nat} (hz : (z, f) ∈ wG tw S) : f to ≤ NOW := by
  by_cases e : f to = NOW
  · exact Nat.le_of_eq e
  · have := NOW_G h hl hz e
    rw [NOW_eq]
    omega
theorem wLv_in {S : List Nat} {s to : Nat} (h : wLv gm tw S s to ≠ 0) : ∃ z ∈ S, kGo z = 1 ∧ kS z = s := by
  induction S with
  | nil => exact absurd rfl h
  | cons x S ih =>
    unfold wLv at h
    split at h
    · rename_i hx
      split at h
      · rename_i hs
        exact ⟨x, List.mem_cons_self, hx.1, hs.symm⟩
      · split at h
        · exact absurd rfl h
        · obtain ⟨z, z1, z2⟩ := ih h
          exact ⟨z, List.mem_cons_of_mem _ z1, z2⟩
    · obtain ⟨z, z1, z2⟩ := ih h
      exact ⟨z, List.mem_cons_of_mem _ z1, z2⟩
/-- none that goes from the same town, not ahead of its minute, is better -/
def wBest (tw : Nat → Nat → Nat) (S : List Nat) (z to : Nat) (f : Nat → Nat) : Prop := f to ≠ NOW ∧ ∀ z2 f2, (z2, f2) ∈ wG tw S → kA tw z2 = kA tw z → kMin z ≤ kMin z2 → z2 ≠ z → f to < f2 to
theorem wQ {S : List Nat} (h : wL S) (hl : S.length ≤ 1000) (hg : ∀ x ∈ S, kGo x = 1 → gm (kT x) (kD x) (kI x) = kMin x) : ∀ {z to : Nat} {f : Nat → Nat}, (z, f) ∈ wG tw S → (wBest tw S z to f → wLv gm tw S (kS z) to = f to % 8) ∧ (¬ wBest tw S z to f → wLv gm tw S (kS z) to = 0) := by
  induction S with
  | nil => exact fun hz => by cases hz
  | cons x S ih =>
    intro z to f hz
    have hS : wL S := wL_tail (P := [x]) h
    have hlS : S.length ≤ 1000 := by
      simp only [List.length_cons] at hl
      omega
    have ih := fun {z to f} => ih hS hlS (fun y hy => hg y (List.mem_cons_of_mem _ hy)) (z := z) (to := to) (f := f)
    have hgt : ∀ y ∈ S, x < y := wL_gt (P := []) h
    by_cases hx : kGo x = 1
    · have hG : wG tw (x :: S) = (x, wTak (wRS tw S).1 x) :: wG tw S := by
        conv => lhs; unfold wG
        rw [if_pos hx]
      have hin : ∀ q, q ∈ wG tw S → q ∈ wG tw (x :: S) := fun q hq => by rw [hG]; exact List.mem_cons_of_mem _ hq
      have hxx : (x, wTak (wRS tw S).1 x) ∈ wG tw (x :: S) := by rw [hG]; exact List.mem_cons_self
      rw [hG] at hz
      have hcN := wS_le_NOW (tw := tw) hS hlS (kA tw x) to
      have hwN := wG_le_NOW h hl hxx (to := to)
      by_cases hzx : z = x
      · subst hzx
        have hf : f = wTak (wRS tw S).1 z := wG_uniq h (by rw [hG]; exact hz) hxx
        subst hf
        have hz0 : wLv gm tw S (kS z) to = 0 := by
          apply Decidable.byContradiction
          intro hne
          obtain ⟨y, y1, y2, y3⟩ := wLv_in hne
          have := kS_inj h (List.mem_cons_of_mem _ y1) List.mem_cons_self y2 hx y3
          have := hgt y y1
          omega
        by_cases hlt : wTak (wRS tw S).1 z to < (wRS tw S).2 (kA tw z) to
        · have hb : wBest tw (z :: S) z to (wTak (wRS tw S).1 z) := by
            refine ⟨by omega, fun z2 f2 h2 h3 h4 h5 => ?_⟩
            rw [hG] at h2
            rcases List.mem_cons.mp h2 with e | h2
            · injection e with e _
              exact absurd e h5
            · have := wS_le h2 to
              rw [h3] at this
              omega
          refine ⟨fun _ => ?_, fun q => absurd hb q⟩
          unfold wLv
          rw [if_pos ⟨hx, hlt⟩, if_pos rfl]
        · have hb : ¬ wBest tw (z :: S) z to (wTak (wRS tw S).1 z) := by
            intro ⟨b1, b2⟩
            rcases wS_at (tw := tw) (S := S) (kA tw z) to with e | ⟨z2, f2, q1, q2, q3⟩
            · omega
            · have q4 := hgt z2 (wG_in q1).1
              have := b2 z2 f2 (hin _ q1) q2 (k_min_le (Nat.le_of_lt q4)) (by omega)
              omega
          refine ⟨fun q => absurd q hb, fun _ => ?_⟩
          unfold wLv
          rw [if_neg fun q => hlt q.2]
          exact hz0
      · have hzS : (z, f) ∈ wG tw S := by
          rcases List.mem_cons.mp hz with e | e
          · injection e with e _
            exact absurd e hzx
          · exact e
        have hz1 := (wG_in hzS).1
        have hz2 := (wG_in hzS).2
        have hzgt := hgt z hz1
        obtain ⟨i1, i2⟩ := ih hzS (to := to)
        have hsne : ¬ kS z = kS x := fun e => hzx (kS_inj h (List.mem_cons_of_mem _ hz1) List.mem_cons_self hz2 hx e)
        have hnew : wBest tw (x :: S) z to f ↔ wBest tw S z to f ∧ (kA tw x = kA tw z → kMin z ≤ kMin x → f to < wTak (wRS tw S).1 x to) := by
          constructor
          · intro ⟨b1, b2⟩
            exact ⟨⟨b1, fun z2 f2 h2 => b2 z2 f2 (hin _ h2)⟩, fun q1 q2 => b2 x _ hxx q1 q2 (Ne.symm hzx)⟩
          · intro ⟨⟨b1, b2⟩, b3⟩
            refine ⟨b1, fun z2 f2 h2 h3 h4 h5 => ?_⟩
            rw [hG] at h2
            rcases List.mem_cons.mp h2 with e | h2
            · injection e with e e'
              subst e
              rw [e']
              exact b3 h3 h4
            · exact b2 z2 f2 h2 h3 h4 h5
        -- the clearing speaks of the best of the rest
        have hclr : ((wRS tw S).2 (kA tw x) to ≠ NOW ∧ gm ((wRS tw S).2 (kA tw x) to / 512 % 16) ((wRS tw S).2 (kA tw x) to / 64 % 8) ((wRS tw S).2 (kA tw x) to / 8 % 8) = kMin x ∧ kS z = 8 * (10 * ((wRS tw S).2 (kA tw x) to / 64 % 8) + (wRS tw S).2 (kA tw x) to / 512 % 16) + (wRS tw S).2 (kA tw x) to / 8 % 8) ↔ (kA tw z = kA tw x ∧ kMin z = kMin x ∧ f to = (wRS tw S).2 (kA tw x) to ∧ f to ≠ NOW) := by
          rcases wS_at (tw := tw) (S := S) (kA tw x) to with e | ⟨z2, f2, q1, q2, q3⟩
          · constructor
            · rintro ⟨a1, -⟩
              exact absurd e a1
            · rintro ⟨-, -, a3, a4⟩
              rw [e] at a3
              exact absurd a3 a4
          · constructor
            · intro ⟨a1, a2, a3⟩
              rw [q3] at a1 a2 a3
              obtain ⟨w1, w2, w3, -⟩ := wF hS q1 a1
              rw [w1, w2, w3] at a2 a3
              have hzz : z = z2 := kS_inj hS hz1 (wG_in q1).1 hz2 (wG_in q1).2 (by rw [a3]; rfl)
              subst hzz
              have hff := wG_uniq hS hzS q1
              subst hff
              exact ⟨q2, by rw [← a2, hg z (List.mem_cons_of_mem _ hz1) hz2], q3.symm, a1⟩
            · intro ⟨a1, a2, a3, a4⟩
              have hzz : z = z2 := by
                apply Decidable.byContradiction
                intro hne
                exact wDist hS hzS q1 hne a4 (a3.trans q3)
              subst hzz
              have hff := wG_uniq hS hzS q1
              subst hff
              obtain ⟨w1, w2, w3, -⟩ := wF hS hzS a4
              rw [← a3, w1, w2, w3]
              exact ⟨a4, by rw [hg z (List.mem_cons_of_mem _ hz1) hz2, a2], rfl⟩
        have hmin := k_min_le (Nat.le_of_lt hzgt)
        have hall : ∀ y ∈ S, kMin x ≤ kMin y := fun y hy => k_min_le (Nat.le_of_lt (hgt y hy))
        have hstep : wLv gm tw (x :: S) (kS z) to = if wTak (wRS tw S).1 x to < (wRS tw S).2 (kA tw x) to ∧ (kA tw z = kA tw x ∧ kMin z = kMin x ∧ f to = (wRS tw S).2 (kA tw x) to ∧ f to ≠ NOW) then 0 else wLv gm tw S (kS z) to := by
          conv => lhs; unfold wLv
          by_cases hlt : wTak (wRS tw S).1 x to < (wRS tw S).2 (kA tw x) to
          · rw [if_pos ⟨hx, hlt⟩, if_neg hsne]
            by_cases hc : (kA tw z = kA tw x ∧ kMin z = kMin x ∧ f to = (wRS tw S).2 (kA tw x) to ∧ f to ≠ NOW)
            · rw [if_pos (hclr.mpr hc), if_pos ⟨hlt, hc⟩]
            · rw [if_neg fun q => hc (hclr.mp q), if_neg fun q => hc q.2]
          · rw [if_neg fun q => hlt q.2, if_neg fun q => hlt q.1]
        rw [hstep]
        by_cases hbS : wBest tw S z to f
        · by_cases hsame : kA tw x = kA tw z ∧ kMin z ≤ kMin x
          · have hcur : f to = (wRS tw S).2 (kA tw x) to := by
              have c1 := wS_le hzS to
              rw [← hsame.1] at c1
              rcases wS_at (tw := tw) (S := S) (kA tw x) to with e | ⟨z2, f2, q1, q2, q3⟩
              · have := hbS.1
                have := wG_le_NOW hS hlS hzS (to := to)
                omega
              · by_cases hzz : z2 = z
                · subst hzz
                  rw [q3, wG_uniq hS hzS q1]
                · have := hbS.2 z2 f2 q1 (q2.trans hsame.1) (by have := hall z2 (wG_in q1).1; omega) hzz
                  omega
            by_cases hlt : wTak (wRS tw S).1 x to < (wRS tw S).2 (kA tw x) to
            · rw [if_pos ⟨hlt, hsame.1.symm, by omega, hcur, hbS.1⟩]
              refine ⟨fun q => ?_, fun _ => rfl⟩
              have := (hnew.mp q).2 hsame.1 hsame.2
              omega
            · rw [if_neg fun q => hlt q.1]
              have hne : f to ≠ wTak (wRS tw S).1 x to := wDist h (hin _ hzS) hxx hzx hbS.1
              have hb : wBest tw (x :: S) z to f := hnew.mpr ⟨hbS, fun _ _ => by omega⟩
              exact ⟨fun _ => i1 hbS, fun q => absurd hb q⟩
          · rw [if_neg fun q => hsame ⟨q.2.1.symm, by omega⟩]
            have hb : wBest tw (x :: S) z to f := hnew.mpr ⟨hbS, fun a1 a2 => absurd ⟨a1, a2⟩ hsame⟩
            exact ⟨fun _ => i1 hbS, fun q => absurd hb q⟩
        · refine ⟨fun q => absurd (hnew.mp q).1 hbS, fun _ => ?_⟩
          split
          · rfl
          · exact i2 hbS
    · have hG : wG tw (x :: S) = wG tw S := by
        conv => lhs; unfold wG
        rw [if_neg hx]
      have hv : wLv gm tw (x :: S) (kS z) to = wLv gm tw S (kS z) to := by
        conv => lhs; unfold wLv
        rw [if_neg fun q => hx q.1]
      have hb : wBest tw (x :: S) z to f ↔ wBest tw S z to f := by
        unfold wBest
        rw [hG]
      rw [hG] at hz
      rw [hv, hb]
      exact ih hz
end WAYS2
