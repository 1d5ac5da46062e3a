/-! the letters' part when the table changes -/
section TAB
variable {T T' : Nat → Nat → Nat → Nat} {L L' : List Nat} {G X : Nat → Nat → Int} {m n n' p p' mi : Nat} {h h' : ea_H}
theorem mem_fst (hp : fstB L mi p) (x : Nat) : x ∈ L.take p ↔ x ∈ L ∧ kMin x ≤ mi := by
  obtain ⟨p1, p2⟩ := hp
  constructor
  · intro z
    obtain ⟨j, j1, j2, j3⟩ := take_at z
    rw [← j3]
    exact ⟨getD_mem j2, (p2 j j2).mp j1⟩
  · rintro ⟨z1, z2⟩
    obtain ⟨j, hj, e⟩ := List.getElem_of_mem z1
    have e2 : L.getD j 0 = x := by
      rw [List.getD_eq_getElem?_getD, List.getElem?_eq_getElem hj]
      exact e
    have hj2 : j < p := (p2 j hj).mpr (by rw [e2]; exact z2)
    have hj3 : j < (L.take p).length := by
      rw [List.length_take]
      omega
    have := List.getElem_mem hj3
    rw [List.getElem_take, e] at this
    exact this
theorem fst_same (hL : tList T L) (hL' : tList T' L') (hp : fstB L mi p) (hp' : fstB L' mi p') (hk : ∀ x, kMin x ≤ mi → (tKey T' x ↔ tKey T x)) : p' = p ∧ L'.take p' = L.take p := by
  have e : L'.take p' = L.take p := wSorted (hL'.1.sublist (List.take_sublist _ _)) (hL.1.sublist (List.take_sublist _ _)) fun y => by
    rw [mem_fst hp', mem_fst hp, hL.2, hL'.2]
    exact ⟨fun z => ⟨(hk y z.2).mp z.1, z.2⟩, fun z => ⟨(hk y z.2).mpr z.1, z.2⟩⟩
  have e2 := congrArg List.length e
  rw [List.length_take, List.length_take] at e2
  have := hp.1
  have := hp'.1
  exact ⟨by omega, e⟩
theorem Ld1_tab {pf fr : Nat → Int} {M : Nat → Bool} {l : Nat} (ht : L'.take p = L.take p) (hl : p ≤ L.length) (hl' : p ≤ L'.length) (hA : ∀ x ∈ L.take p, kA (tW T') x = kA (tW T) x) (d : Ld1 T L G pf fr M p X l) : Ld1 T' L' G pf fr M p X l := by
  obtain ⟨d1, d2, d3, d4, d5, d6⟩ := d
  have ek : ldK L' M p = ldK L M p := by
    unfold ldK
    rw [ht]
  have hA' : ∀ x ∈ ldK L M p, kA (tW T') x = kA (tW T) x := fun x hx => hA x (List.mem_filter.mp hx).1
  unfold Ld1
  rw [ek]
  refine ⟨fun c hc => ?_, d2, d3, fun i hi => ?_, fun h0 x hx hg => ?_, d6⟩
  · obtain ⟨j, j1, j2, j3⟩ := d1 c hc
    have e : L'.getD j 0 = L.getD j 0 := by
      have a : (L'.take p).getD j 0 = L'.getD j 0 := by
        rw [List.getD_eq_getElem?_getD, List.getD_eq_getElem?_getD, List.getElem?_take, if_pos j1]
      have b : (L.take p).getD j 0 = L.getD j 0 := by
        rw [List.getD_eq_getElem?_getD, List.getD_eq_getElem?_getD, List.getElem?_take, if_pos j1]
      rw [← a, ← b, ht]
    exact ⟨j, j1, by omega, by rw [e]; exact j3⟩
  · have := d4 i hi
    unfold ldRow at this ⊢
    rw [hA' _ (getD_mem hi)]
    exact this
  · rw [hA' x hx]
    exact d5 h0 x hx hg
theorem XL_tab {b b' : Int} {l : Nat} (hS : ∀ t, t < 10 → tS T t ≤ tS T' t) (hb : X 7 l + (if X 0 l ≤ 3 then 1 else 0) ≤ b') (c : XL T b X l) : XL T' b' X l := by
  obtain ⟨c1, c2, c3, c4, c5, c6⟩ := c
  refine ⟨c1, c2, fun z => ?_, c4, ⟨c5.1, hb⟩, c6⟩
  obtain ⟨t, d, a1, a2, a3, a4, a5, a6⟩ := c3 z
  have := hS t a1
  exact ⟨t, d, a1, a2, a3, a4, by omega, a6⟩
theorem SLe.tab (ok' : tOk T') (hS : ∀ t, t < 10 → tS T t ≤ tS T' t) (n0 : 0 ≤ hI h 326 0) (hk : hI h 326 0 = 0 ∨ ((∀ x, kMin x ≤ (hI h 326 0).toNat → (tKey T' x ↔ tKey T x)) ∧ ∀ x, kA (tW T') x = kA (tW T) x)) (sl : SLe h n T m X G) : SLe h n T' m X G := by
  obtain ⟨⟨hG, gc, gm, rc, rn, rm, df, L, p, hL, hp, hX, hld⟩, sl⟩ := sl
  obtain ⟨L', hL'⟩ := t_exists T'
  obtain ⟨p', hp'⟩ := fstB_ex (t_wL ok' hL') (hI h 326 0).toNat
  refine ⟨⟨hG, gc, gm, rc, rn, rm, df, L', p', hL', hp', fun l hl => ?_, fun l hl => ?_⟩, sl⟩
  · rcases hk with z | ⟨z1, z2⟩
    · obtain ⟨⟨d1, d2, d3⟩, d4, d5⟩ := hld l hl
      have mk : ∀ c, mkB h c l = false := fun c => by
        rw [Bool.eq_false_iff]
        intro w
        obtain ⟨j, j1, j2, j3, j4⟩ := d1 c w
        have := (hp.2 j j2).mp j1
        have j4 : hI h (76 + 2 * l) 6 < kMin (L.getD j 0) := j4
        omega
      rw [ldK_none mk] at d2
      refine XL_tab hS ?_ (hX l hl)
      rw [d2]
      have e : (([] : List Nat).length : Int) = 0 := rfl
      rw [e]
      dsimp only
      by_cases q : X 0 l ≤ 3
      · rw [if_neg (by omega), if_pos q]
        omega
      · rw [if_pos (by omega), if_neg q]
        omega
    · obtain ⟨e1, e2⟩ := fst_same hL hL' hp hp' z1
      refine XL_tab hS ?_ (hX l hl)
      rw [e1]
      exact (hX l hl).2.2.2.2.1.2
  · obtain ⟨d0, d4, d5⟩ := hld l hl
    refine ⟨?_, d4, d5⟩
    rcases hk with z | ⟨z1, z2⟩
    · obtain ⟨d1, d2, d3, -, -, d8⟩ := d0
      have mk : ∀ c, mkB h c l = false := fun c => by
        rw [Bool.eq_false_iff]
        intro w
        obtain ⟨j, j1, j2, j3, j4⟩ := d1 c w
        have := (hp.2 j j2).mp j1
        have j4 : hI h (76 + 2 * l) 6 < kMin (L.getD j 0) := j4
        omega
      rw [ldK_none mk] at d2 d8
      unfold Ld1
      rw [ldK_none mk]
      refine ⟨fun c hc => ?_, d2, d3, fun i hi => absurd hi (Nat.not_lt_zero i), fun _ x hx => ?_, fun h4 => ⟨(d8 h4).1, (d8 h4).2.1, fun x hx => ?_⟩⟩
      · have hc : mkB h c l = true := hc
        rw [mk c] at hc
        cases hc
      · cases hx
      · cases hx
    · obtain ⟨e1, e2⟩ := fst_same hL hL' hp hp' z1
      have q1 := hp.1
      have q2 := hp'.1
      rw [e1] at e2 q2 ⊢
      exact Ld1_tab e2 q1 q2 (fun x _ => z2 x) d0
theorem tNew_le (ok : tOk T) (ok' : tOk (tNew T)) (n0 : 0 ≤ hI h 326 0) (sl : SLe h n T m X G) : SLe h n (tNew T) m X G := SLe.tab (T := T) (T' := tNew T) ok' (fun _ _ => Nat.le_refl _) n0 (Or.inr ⟨fun x _ => tNew_key ok x, fun _ => rfl⟩) sl
theorem tAdd_le {t a c g : Nat} (ok' : tOk (tAdd T t a c g)) (z : hI h 326 0 = 0) (sl : SLe h n T m X G) : SLe h n (tAdd T t a c g) m X G := SLe.tab (T := T) (T' := tAdd T t a c g) ok' (fun p _ => by
  rw [tAdd_S]
  split
  · rename_i q
    rw [q]
    omega
  · exact Nat.le_refl _) (by omega) (Or.inl z) sl
theorem tLat_key (ok : tOk T) {t d k x : Nat} (ht : t < 10) (hl : (mi : Int) < 1440 * d + tG T t 0) (hx : kMin x ≤ mi) : tKey (tLat T t d k) x ↔ tKey T x := by
  have eD : tD (tLat T t d k) (kT x) (kD x) = if kT x = t ∧ kD x = d then k else tD T (kT x) (kD x) := by
    show (if 5 = 5 ∧ kT x = t ∧ kD x = d then k else T 5 (kT x) (kD x)) = _
    by_cases q : kT x = t ∧ kD x = d
    · rw [if_pos q, if_pos ⟨rfl, q⟩]
    · rw [if_neg q, if_neg (fun z => q z.2)]
      rfl
  by_cases q : kT x = t ∧ kD x = d
  · have no : ∀ D : Nat, ¬ ((kGo x = 0 ∧ 0 < kI x ∧ kI x < tS T (kT x) ∧ kMin x = 1440 * kD x + tC T (kT x) (kI x) + D) ∨ (kGo x = 1 ∧ kI x + 1 < tS T (kT x) ∧ kMin x = 1440 * kD x + tG T (kT x) (kI x) + D)) := fun D w => by
      rw [q.1, q.2] at w
      rcases w with ⟨-, w1, w2, w3⟩ | ⟨-, w2, w3⟩
      · have := t_lt ok ht (kI x - 1) 0 (by omega)
        rw [show 0 + (kI x - 1) + 1 = kI x by omega] at this
        omega
      · by_cases z : kI x = 0
        · rw [z] at w3
          omega
        · have := t_lt ok ht (kI x - 1) 0 (by omega)
          rw [show 0 + (kI x - 1) + 1 = kI x by omega] at this
          have := (ok.2.2.2.1 t (kI x) ht (by omega)).2.1
          omega
    constructor
    · rintro ⟨-, -, -, w⟩
      exact absurd w (no _)
    · rintro ⟨-, -, -, w⟩
      exact absurd w (no _)
  · rw [if_neg q] at eD
    have e1 : tCm (tLat T t d k) (kT x) (kD x) (kI x) = tCm T (kT x) (kD x) (kI x) := by
      show 1440 * kD x + tC T (kT x) (kI x) + tD (tLat T t d k) (kT x) (kD x) = _
      rw [eD]
      rfl
    have e2 : tGm (tLat T t d k) (kT x) (kD x) (kI x) = tGm T (kT x) (kD x) (kI x) := by
      show 1440 * kD x + tG T (kT x) (kI x) + tD (tLat T t d k) (kT x) (kD x) = _
      rw [eD]
      rfl
    show (kT x < tN T ∧ kD x < 7 ∧ kMin x ≤ 10079 ∧ ((kGo x = 0 ∧ 0 < kI x ∧ kI x < tS T (kT x) ∧ kMin x = tCm (tLat T t d k) (kT x) (kD x) (kI x)) ∨ (kGo x = 1 ∧ kI x + 1 < tS T (kT x) ∧ kMin x = tGm (tLat T t d k) (kT x) (kD x) (kI x)))) ↔ tKey T x
    rw [e1, e2]
    exact Iff.rfl
theorem tLat_le (ok : tOk T) {t d k : Nat} (ok' : tOk (tLat T t d k)) (n0 : 0 ≤ hI h 326 0) (lc : ltC T (hI h 326 0) ((t : Nat) : Int) ((d : Nat) : Int) ((k : Nat) : Int)) (sl : SLe h n T m X G) : SLe h n (tLat T t d k) m X G := by
  obtain ⟨⟨-, l1⟩, -, -, -, l2⟩ := lc
  have ok1 := ok.1
  have et : ((t : Nat) : Int).toNat = t := rfl
  rw [et] at l2
  exact SLe.tab (T := T) (T' := tLat T t d k) ok' (fun _ _ => Nat.le_refl _) n0 (Or.inr ⟨fun x hx => tLat_key ok (mi := (hI h 326 0).toNat) (by omega) (by omega) hx, fun _ => rfl⟩) sl
end TAB
