/-! trials: what stands when the reference's rows beyond are others -/
theorem RC52.ext6 {m : Nat} {X Y : Nat → Nat → Int} {h : ea_H} (e : ∀ f, f ≤ 6 → ∀ k, Y f k = X f k) (rc : RC52 m X h) : RC52 m Y h := by
  have e0 := e 0 (by decide)
  have e1 := e 1 (by decide)
  have e2 := e 2 (by decide)
  have e3 := e 3 (by decide)
  have e4 := e 4 (by decide)
  have e5 := e 5 (by decide)
  have e6 := e 6 (by decide)
  unfold RC52 at rc ⊢
  simp only [e0, e1, e2, e3, e4, e5, e6]
  exact rc
section TBS
variable {T : Nat → Nat → Nat → Nat} {L : List Nat} {G X Y : Nat → Nat → Int} {m n p : Nat} {h h' : ea_H}
/-- the rows that there are stay -/
def rwE (X Y : Nat → Nat → Int) (l : Nat) : Prop := ∀ i : Nat, (i : Int) < X 7 l → Y 8 (1000 * l + i) = X 8 (1000 * l + i) ∧ Y 9 (1000 * l + i) = X 9 (1000 * l + i) ∧ Y 10 (1000 * l + i) = X 10 (1000 * l + i)
theorem Ld1_rw {pf fr : Nat → Int} {M : Nat → Bool} {l : Nat} (e0 : Y 0 l = X 0 l) (e1 : Y 1 l = X 1 l) (e7 : Y 7 l = X 7 l) (e8 : rwE X Y l) (d : Ld1 T L G pf fr M p X l) : Ld1 T L G pf fr M p Y l := by
  obtain ⟨a1, a2, a3, a4, a5, a6⟩ := d
  have q0 : 0 ≤ (if 4 ≤ X 0 l then (1 : Int) else 0) := by split <;> decide
  unfold Ld1
  rw [e0, e1, e7]
  refine ⟨a1, a2, ?_, fun i hi => ?_, a5, fun h4 => ?_⟩
  · have r0 := e8 0 (by omega)
    rw [Nat.add_zero] at r0
    rw [r0.1, r0.2.1, r0.2.2]
    exact a3
  · have r := e8 (1 + i) (by omega)
    unfold ldRow
    rw [r.1, r.2.1, r.2.2]
    exact a4 i hi
  · have a2' := a2
    rw [if_pos h4] at a2'
    have r := e8 (1 + (ldK L M p).length) (by omega)
    rw [r.1, r.2.1, r.2.2]
    exact a6 h4
theorem SLe.tb (s : keq [(12, 12), (19, 21), (51, 51), (53, 61), (73, 75), (76, 315), (334, 334), (354, 354), (364, 375), (378, 380), (392, 394), (396, 403)] V_Le h h') (rw' : ∀ l, l < m → rwE X Y l) (rm : RM0 m (tbX X Y) h') (df : DFm m (fun _ => hI h 326 0 / 1440) (tbX X Y) h') (sl : SLe h n T m X G) : SLe h' n T m (tbX X Y) G := by
  obtain ⟨⟨hG, gc, gm, rc, rn, rm0, df0, L, p, hL, hp, hX, hld⟩, sh, nw, ss, sc, sf, sp, sr⟩ := sl
  have hm := rc.1.2
  have le : ltE [0, 1, 2, 3, 4, 5, 6, 7, 8, 9, 10, 11, 12, 13, 14, 15, 16, 17, 18] h h' := keq.lt (s.sub rfl rfl : keq [] [((76, 315), 0, 18)] h h') rfl
  have e0 : hI h' 326 0 = hI h 326 0 := s.V 326 0 rfl
  have b1 : ∀ l, l < m → 1 ≤ X 7 l := fun l hl => (hX l hl).2.2.2.2.1.1
  have tr : ∀ l, l < m → rwE X (tbX X Y) l := fun l hl i hi => by
    rw [tb_hi (f := 8) (by decide), tb_hi (f := 9) (by decide), tb_hi (f := 10) (by decide)]
    exact rw' l hl i hi
  refine ⟨⟨hG, gc.kq (s.sub rfl rfl), gm.kq (s.sub rfl rfl), RC52.ext6 (fun f hf k => tb_lo (by omega)) (rc.kq (s.sub rfl rfl)), ?_, rm, fun l hl hz => ?_, L, p, hL, by rw [e0]; exact hp, fun l hl => XL_cg (tb_lo (by decide)) (tb_lo (by decide)) (tb_lo (by decide)) (tb_lo (by decide)) (tb_lo (by decide)) (tb_lo (by decide)) (hX l hl), fun l hl => ?_⟩, fun l hl => ?_, fun l hl hl2 => ?_, ss.lq hm (s.sub rfl rfl) (le.sub rfl), sc.lq hm (s.sub rfl rfl) (le.sub rfl), sf.lq hm (s.sub rfl rfl) (le.sub rfl), sp.lq (s.sub rfl rfl) (le.sub rfl) (keq.pl (s.sub rfl rfl : keq [] [((76, 315), 0, 3)] h h') List.mem_cons_self) hm, sr.kq (s.sub rfl rfl) fun l _ => ?_⟩
  · obtain ⟨r1, r2⟩ := RN.lq hm (s.sub rfl rfl) (le.sub rfl) rn
    refine ⟨fun l hl => ?_, r2⟩
    have b := b1 l hl
    obtain ⟨t8, t9, t10⟩ := tr l hl (X 7 l - 1).toNat (by omega)
    rw [tb_lo (f := 7) (by decide), t8, t9, t10]
    exact r1 l hl
  · rw [df l hl hz, e0]
  · obtain ⟨d1, d2, d3⟩ := hld l hl
    have hmk : (fun c => mkB h' c l) = fun c => mkB h c l := funext fun c => mkB_kq (s.sub rfl rfl) c l
    rw [hmk, le l 6 (by omega) (by decide), e0]
    exact ⟨Ld1_cg (le l 6 (by omega) (by decide)) (le l 1 (by omega) (by decide)) (Ld1_rw (tb_lo (by decide)) (tb_lo (by decide)) (tb_lo (by decide)) (tr l hl) d1), d2, d3⟩
  · obtain ⟨c1, c2⟩ := sh l hl
    have b := b1 l hl
    rw [le l 1 (by omega) (by decide), e0, tb_lo (f := 0) (by decide), tb_lo (f := 7) (by decide), (tr l hl (X 7 l - 1).toNat (by omega)).1]
    exact ⟨c1, c2⟩
  · rw [tb_lo (f := 3) (by decide), tb_lo (f := 7) (by decide)]
    exact (nw.lq (s.sub rfl rfl) (le.sub rfl)) l hl hl2
  · rw [tb_lo (f := 0) (by decide)]
/-- a cell that is as it was -/
theorem fq_dr {A : List (Nat × Nat)} {B : List ((Nat × Nat) × Nat × Nat)} {x : Nat} (f : fq ((x, x) :: A) B h h') (hi : ∀ k, hI h' x k = hI h x k) (hj : ∀ k, hJ h' x k = hJ h x k) : fq A B h h' := by
  have no : ∀ a, a ≠ x → inB A a = false → inB ((x, x) :: A) a = false := fun a ha hb => by
    show ((decide (x ≤ a) && decide (a ≤ x)) || inB A a) = false
    rw [hb, Bool.or_false, Bool.and_eq_false_iff, decide_eq_false_iff_not, decide_eq_false_iff_not]
    omega
  refine ⟨f.1, fun a ha k hk => ?_, fun a ha k => ?_⟩
  · by_cases z : a = x
    · rw [z]
      exact hi k
    · exact f.2.1 a (no a z ha) k hk
  · by_cases z : a = x
    · rw [z]
      exact hj k
    · exact f.2.2 a (no a z ha) k
end TBS
