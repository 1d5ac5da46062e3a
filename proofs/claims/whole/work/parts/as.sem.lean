/-! constructors: what is there so far: K cells, of their classes and lengths, the references D set -/
def RFa : List (Nat × Nat × Option Nat) := ShC_rf ++ ShM_rf
def clA (b : Nat) : Nat × Nat := if b < 326 then ShC_cl.getD b (0, 0) else ShM_cl.getD (b - 326) (0, 0)
/-- how many slots the cells up to K take -/
def obz (c l : Nat) : Nat := if c < 13 then ([11, 16, 3, 5, 4, 20, 10, 4, 5, 8, 7, 19, 118] : List Nat).getD c 0 else l
def sA : Nat → Nat
  | 0 => 0
  | K + 1 => sA K + obz (clA K).1 (clA K).2
def Pre (K : Nat) (D : List (Nat × Nat)) (h : ea_H) : Prop := ea_n h = K ∧ (∀ b, b < K → ea_c h b = (clA b).1 ∧ ea_l h b = (clA b).2) ∧ (∀ d ∈ D, d.1 < K) ∧ (∀ q ∈ RFa, (q.1, q.2.1) ∈ D → ea_r h q.1 q.2.1 = q.2.2) ∧ ea_s h = sA K
section PRE
variable {K : Nat} {D : List (Nat × Nat)} {h : ea_H}
theorem new_I (h : ea_H) (c l s a k : Nat) : hI (ea_new h c l s) a k = if a = ea_n h then 0 else hI h a k := by
  show ((if a = ea_n h then (fun _ => 0) else ea_i h a) k).toInt = _
  by_cases z : a = ea_n h
  · rw [if_pos z, if_pos z]
    rfl
  · rw [if_neg z, if_neg z]
    rfl
theorem new_J (h : ea_H) (c l s a k : Nat) : hJ (ea_new h c l s) a k = if a = ea_n h then 0 else hJ h a k := by
  show ((if a = ea_n h then (fun _ => 0) else ea_j h a) k).toInt = _
  by_cases z : a = ea_n h
  · rw [if_pos z, if_pos z]
    rfl
  · rw [if_neg z, if_neg z]
    rfl
theorem wr_I (h : ea_H) (a f : Nat) (v : Option Nat) (b k : Nat) : hI (ea_wr h a f v) b k = hI h b k := rfl
theorem wr_J (h : ea_H) (a f : Nat) (v : Option Nat) (b k : Nat) : hJ (ea_wr h a f v) b k = hJ h b k := rfl
theorem Pre.new {c l : Nat} (s : Nat) (p : Pre K D h) (e : clA K = (c, l)) (ez : obz c l = s) : Pre (K + 1) D (ea_new h c l s) := by
  obtain ⟨p1, p2, p3, p4, p5⟩ := p
  refine ⟨congrArg (· + 1) p1, fun b hb => ?_, fun d hd => Nat.lt_succ_of_lt (p3 d hd), fun q hq hd => ?_, ?_⟩
  · show (if b = ea_n h then c else ea_c h b) = _ ∧ (if b = ea_n h then l else ea_l h b) = _
    rw [p1]
    by_cases z : b = K
    · rw [if_pos z, if_pos z, z, e]
      exact ⟨rfl, rfl⟩
    · rw [if_neg z, if_neg z]
      exact p2 b (by omega)
  · have := p3 _ hd
    show (if q.1 = ea_n h then (fun _ => none) else ea_r h q.1) q.2.1 = _
    have this : q.1 < K := this
    rw [if_neg (by omega)]
    exact p4 q hq hd
  · show ea_s h + s = sA K + obz (clA K).1 (clA K).2
    rw [p5, e, ez]
theorem Pre.wr {a f : Nat} {v : Option Nat} (p : Pre K D h) (ha : a < K) (w : (RFa.all fun q => !(decide (q.1 = a) && decide (q.2.1 = f)) || decide (q.2.2 = v)) = true) : Pre K ((a, f) :: D) (ea_wr h a f v) := by
  obtain ⟨p1, p2, p3, p4, p5⟩ := p
  refine ⟨p1, p2, fun d hd => ?_, fun q hq hd => ?_, p5⟩
  · rcases List.mem_cons.mp hd with z | z
    · rw [z]
      exact ha
    · exact p3 d z
  · show (if q.1 = a ∧ q.2.1 = f then v else ea_r h q.1 q.2.1) = _
    by_cases z : q.1 = a ∧ q.2.1 = f
    · rw [if_pos z]
      have := List.all_eq_true.mp w q hq
      rw [decide_eq_true z.1, decide_eq_true z.2] at this
      have this : decide (q.2.2 = v) = true := this
      exact (of_decide_eq_true this).symm
    · rw [if_neg z]
      rcases List.mem_cons.mp hd with y | y
      · have y1 : q.1 = a := congrArg Prod.fst y
        have y2 : q.2.1 = f := congrArg Prod.snd y
        exact absurd ⟨y1, y2⟩ z
      · exact p4 q hq y
theorem Pre.wi {a k : Nat} {x : Int32} (p : Pre K D h) : Pre K D (ea_wi h a k x) := p
theorem Pre.core {h' : ea_H} (e : ea_core h' = ea_core h) (p : Pre K D h) : Pre K D h' := by
  obtain ⟨p1, p2, p3, p4, p5⟩ := p
  have e1 : ea_n h' = ea_n h := congrArg (fun c => c.1.1.1) e
  have e2 : ea_c h' = ea_c h := congrArg (fun c => c.2.1) e
  have e3 : ea_l h' = ea_l h := congrArg (fun c => c.2.2.1) e
  have e4 : ea_r h' = ea_r h := congrArg (fun c => c.2.2.2) e
  refine ⟨e1.trans p1, fun b hb => ?_, p3, fun q hq hd => ?_, (show ea_s h' = ea_s h from congrArg (fun c => c.1.1.2) e).trans p5⟩
  · rw [e2, e3]
    exact p2 b hb
  · rw [e4]
    exact p4 q hq hd
theorem Pre.c {b c l : Nat} (p : Pre K D h) (hb : b < K) (e : clA b = (c, l)) : (b < ea_n h ∧ ea_c h b = c) ∧ ea_l h b = l := by
  obtain ⟨p1, p2, p3, p4, -⟩ := p
  have := p2 b hb
  rw [e] at this
  exact ⟨⟨by omega, this.1⟩, this.2⟩
theorem Pre.r {a f : Nat} {v : Option Nat} (p : Pre K D h) (hd : (a, f) ∈ D) (hq : (a, f, v) ∈ RFa) : ea_r h a f = v := p.2.2.2.1 (a, f, v) hq hd
theorem Pre.fin (p : Pre 416 D h) (w : (RFa.all fun q => D.any fun d => decide (d = (q.1, q.2.1))) = true) : ShC h ∧ ShM h := by
  obtain ⟨p1, p2, p3, p4, -⟩ := p
  have all : ∀ q ∈ RFa, ea_r h q.1 q.2.1 = q.2.2 := fun q hq => by
    obtain ⟨d, d1, d2⟩ := List.any_eq_true.mp (List.all_eq_true.mp w q hq)
    have d2 : d = (q.1, q.2.1) := of_decide_eq_true d2
    exact p4 q hq (d2 ▸ d1)
  refine ⟨⟨fun b hb => ?_, fun q hq => all q (List.mem_append_left _ hq)⟩, fun b hb => ?_, fun q hq => all q (List.mem_append_right _ hq)⟩
  · have := p2 b (by omega)
    unfold clA at this
    rw [if_pos hb] at this
    rw [Nat.zero_add]
    exact ⟨by omega, this.1, this.2⟩
  · have := p2 (326 + b) (by omega)
    unfold clA at this
    rw [if_neg (by omega), show 326 + b - 326 = b by omega] at this
    exact ⟨by omega, this.1, this.2⟩
end PRE
