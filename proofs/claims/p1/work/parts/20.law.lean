/-! THE CLAIM OUT OF ONE WALK OF THE LAW'S BODY. Your part is whole_start (and what it stands on); all else here is the same for every law, but numbers. -/
def R_law : String := "InlandMailsLaw"
def lw_P (b : Addr) (xs : List Int32) (args : Array Value) (s : State) : Prop := args = #[.ref b] ∧ s.IntsAt b xs ∧ xs.length ≤ 7 ∧ (Jvm.Cond.and given_1 narrow_1).before args s = true
def lw_Q (_ : Array Value) (s : State) (o : Outcome) (t : State) : Prop := o = .returned (some (.int 1)) ∧ Framed s o t [] 600000 7302250
def lw_Z (below : List Frame) (a : Array Value) (s : State) : State → Prop := fun t => ∃ o, t.status = .running ∧ Ended t below o ∧ lw_Q a s o t
/-- the law's own end, with 1 on the stack, nothing written that was there before, its room as the claim has it -/
theorem lw_ret {p : Program} {l : Launch} {e : Env} {s : State} {m : MethodId} {below : List Frame} {meth : Method} {c : Code} {b : Nat} (hx : p.tables.exec = Jvm.exec) (hb : c.code = code) (hr : meth.sig.returnType = ret) (hlocks : meth.locks = false) {pc : Nat} {H : Heap} {ls : Array Slot} (hdg : decode code pc = .ok (.ireturn, 1)) : W p l e room_1 s m #[Value.ref b] below meth c H [] 600000 7302250 (lw_Z below #[Value.ref b] s) (F0 m pc ls [.int 1]) := by
  intro T hT X
  obtain ⟨fs, hret, hrun, hended, hW, hframe⟩ := X.leave (v := some (.int 1)) (hlocks := hlocks) (fun h => by rw [hr] at h; cases h)
  have hmeth' : T.vm.method? m = some meth := X.method'
  refine ⟨T.setFrames fs, ?_, .returned (some (.int 1)), hrun, hended, rfl, ⟨_, rfl⟩, hW, hframe⟩
  jvm_step X.here [X.here.top, hx, hb, hdg, hmeth', hr, ret, narrow_b1]
  (try refine ⟨rfl, ?_⟩); (try refine ⟨rfl, ?_⟩)
  first | (intro acts; rw [hret _ acts rfl rfl rfl]) | rw [hret _ _ rfl rfl rfl]
  exact Steps.refl _
/-- what holds at the law's entry: the machine, the code, the tables' words (any of lw_tbl by 'hts w (by decide +kernel)'), the script of L ints xs at the cell b, what the Statement gives of the start (any of its parts by flat_of_before) -/
def lw_At (p : Program) (s : State) (m : MethodId) (meth : Method) (c : Code) (b L : Nat) (xs : Nat → Int32) : Prop :=
  p.tables.exec = Jvm.exec ∧ c.code = code ∧ meth.sig.returnType = ret ∧ c.maxLocals = 4 ∧ s.vm.findClass R_law = some m.cls ∧ (∀ w ∈ lw_tbl, w.before #[Value.ref b] s = true) ∧ va_X b L xs s s.heap ∧ b < s.heap.size ∧ meth.locks = false ∧ (Jvm.Cond.and given_1 narrow_1).before #[Value.ref b] s = true
/-! from the pure walk of the law to the claim's start -/
def ea_h0 (L : Nat) (xs : Nat → Int32) : ea_H := (((0, 0), L, xs), fun _ => 0, fun _ => 0, fun _ _ => 0, fun _ _ => 0, fun _ _ => none)
theorem ea_room {s : State} {pl : Platform} {r r' : Room} (h : s.hasRoom pl r = true) (h1 : r'.frames ≤ r.frames) (h2 : r'.cells ≤ r.cells) (h3 : r'.slots ≤ r.slots) (h4 : r'.locals ≤ r.locals) : s.hasRoom pl r' = true := by
  simp only [State.hasRoom, Bool.and_eq_true, decide_eq_true_eq] at h ⊢
  obtain ⟨⟨⟨⟨a1, a2, a3, a4, a5, a6⟩, a7⟩, a8⟩, a9⟩ := h
  exact ⟨⟨⟨⟨by omega, by omega, by omega, by omega, by omega, a6⟩, by omega⟩, by omega⟩, a9⟩
theorem ea_arrK {args : Array Value} {s : State} {ty : FieldType} (h : (Cond.arrayClass ty).before args s = true) : ∃ cA, ArrOfT s cA ty ∧ s.vm.findClass ("[" ++ ty.toString) = some cA := by
  obtain ⟨c, k, comp, h1, h2, h3⟩ := Cond.arrayClass_spec h
  exact ⟨c, fun n z => ⟨fun k h => (by cases h), k, h2, comp, h3⟩, h1⟩
theorem ea_arrO {args : Array Value} {s : State} {C : String} (h : (Cond.arrayOver (.object C)).before args s = true) : ∃ cA, ArrOfT s cA (.object C) ∧ va_RA s cA (.object C) := by
  obtain ⟨comp, c, k, h1, -, h2, h3, h4⟩ := Cond.arrayOver_spec h
  exact ⟨c, fun n z => ⟨fun k h => (by cases h), k, h2, comp, h3⟩, k, comp, h2, h3, h1, h4⟩
theorem ea_known {args : Array Value} {s : State} (hts : ∀ w ∈ ea_tbl, w.before args s = true) {ci : Nat} {C : String} {T : u_T} {N : Nat} (hc : ea_Cls ci C T N) (hi : Cond.instantiable C N ∈ ea_tbl) : ∃ x : ClassId × (Nat → Nat), ∀ q : vw_C, ea_cl[ci]? = some q → u_Kn s q.1 q.2.1 q.2.2 x.1 x.2 := by
  obtain ⟨cC, iS, h⟩ := u_known hts hc.2.2.2.1 (hts _ hi)
  refine ⟨(cC, iS), fun q hq => ?_⟩
  have : q = (C, T, N) := Option.some.inj (hq.symm.trans hc.1)
  subst this
  exact h
theorem ea_classes {args : Array Value} {s : State} (hts : ∀ w ∈ ea_tbl, w.before args s = true) : ∀ c : Nat, ∃ x : ClassId × (Nat → Nat), ∀ q : vw_C, ea_cl[c]? = some q → u_Kn s q.1 q.2.1 q.2.2 x.1 x.2 := by
  intro c
  match c with
  | 0 => exact ea_known hts ec_0 ew_787
  | 1 => exact ea_known hts ec_1 ew_354
  | 2 => exact ea_known hts ec_2 ew_419
  | 3 => exact ea_known hts ec_3 ew_256
  | 4 => exact ea_known hts ec_4 ew_928
  | 5 => exact ea_known hts ec_5 ew_286
  | 6 => exact ea_known hts ec_6 ew_137
  | 7 => exact ea_known hts ec_7 ew_1233
  | 8 => exact ea_known hts ec_8 ew_280
  | 9 => exact ea_known hts ec_9 ew_172
  | 10 => exact ea_known hts ec_10 ew_220
  | 11 => exact ea_known hts ec_11 ew_129
  | 12 => exact ea_known hts ec_12 ew_1339
  | n + 13 => exact ⟨(0, fun _ => 0), fun q hq => by simp [ea_cl] at hq⟩
theorem ea_arrays {args : Array Value} {s : State} (hts : ∀ w ∈ ea_tbl, w.before args s = true) (hnw : ∀ x ∈ ea_nl, va_Nw x s) : ∃ κ : Nat → ClassId, ∀ (k : Nat) (q : ClassId × FieldType), (ea_tys κ)[k]? = some q → ArrOfT s q.1 q.2 ∧ va_RA s q.1 q.2 := by
  obtain ⟨c0, a0, b0⟩ := ea_arrK (hts _ ew_170)
  obtain ⟨c1, a1, b1⟩ := ea_arrK (hts _ ew_218)
  obtain ⟨c2, a2, b2⟩ := ea_arrK (hts _ ew_720)
  obtain ⟨c3, a3, b3⟩ := ea_arrO (C := "InlandMails$Letter") (hnw _ ew_352)
  obtain ⟨c4, a4, b4⟩ := ea_arrO (C := "InlandMails$Clock") (hnw _ ew_416)
  obtain ⟨c5, a5, b5⟩ := ea_arrO (C := "InlandMails$Robbery") (hnw _ ew_418)
  obtain ⟨c6, a6, b6⟩ := ea_arrO (C := "InlandMails$Act") (hnw _ ew_332)
  refine ⟨fun k => if k = 20 then c0 else if k = 21 then c1 else if k = 22 then c2 else if k = 23 then c3 else if k = 24 then c4 else if k = 25 then c5 else c6, fun k q hq => ?_⟩
  match k with
  | 0 => cases hq; exact ⟨a0, b0⟩
  | 1 => cases hq; exact ⟨a1, b1⟩
  | 2 => cases hq; exact ⟨a2, b2⟩
  | 3 => cases hq; exact ⟨a3, b3⟩
  | 4 => cases hq; exact ⟨a4, b4⟩
  | 5 => cases hq; exact ⟨a5, b5⟩
  | 6 => cases hq; exact ⟨a6, b6⟩
  | n + 7 => simp [ea_tys] at hq
theorem ea_law {L : Nat} {xs : Nat → Int32} {hE : ea_H} (hn : ea_n hE ≤ 600000) (hs : ea_s hE ≤ 7302250) (k : ea_W mL_law 1312 (ea_h0 L xs) (some (vI 1)) hE 0 [(0, vO 0)] [] (ea_h0 L xs)) {p : Program} {e : Env} {s : State} {m : MethodId} {below : List Frame} {meth : Method} {c : Code} (l : Launch) {b : Nat} (C0 : lw_At p s m meth c b L xs) (hnm : meth.name = "law") : W p l e room_1 s m #[Value.ref b] below meth c s.heap [] 0 0 (lw_Z below #[Value.ref b] s) (entryFrame m ([Value.ref b] : List Value).toArray 4) := by
  obtain ⟨hx, hb, hr, hml, hown, hts0, hX, hbl, hlocks, -⟩ := C0
  intro T hT X
  have X' : Stand p l e (ea_R 1312 (ea_n hE - 0) (ea_s hE - 0)) s m #[Value.ref b] below meth c T [] 0 0 := { X with room := ea_room X.room (show 1312 ≤ 2048 by decide) hn hs (show 64 * 1312 ≤ 84000 by decide) }
  have hts : ∀ w ∈ ea_tbl, w.before #[Value.ref b] s = true := fun w hw => hts0 w (List.mem_filter.mp hw).1
  have hnw : ∀ x ∈ ea_nl, va_Nw x s := by
    intro x hx
    obtain ⟨h1, h2⟩ := List.mem_filter.mp hx
    have h3 := hts0 x h1
    unfold ea_special at h2
    split at h2
    · exact va_Nw.of rfl h3
    · exact h3
    · cases h2
  obtain ⟨κ, hκ⟩ := ea_arrays hts hnw
  have hcl := ea_classes hts
  let w : ea_G := ((fun c => (Classical.choose (hcl c)).1, fun c => (Classical.choose (hcl c)).2), κ, fun i => s.heap.size + i, fun _ => b)
  have hC : ea_Ctx mL_law p s m #[Value.ref b] meth c := ⟨⟨hx, hb, hml, hown, hts⟩, hr, hlocks, hnm⟩
  have hA : ea_Ad w.2.2.1 (ea_n (ea_h0 L xs)) s.heap.size := ⟨fun i j hi => absurd hi (Nat.not_lt_zero _), fun i hi => absurd hi (Nat.not_lt_zero _), fun i _ => rfl⟩
  have hK : ea_K w s := ⟨⟨fun c q hq => Classical.choose_spec (hcl c) q hq, hκ⟩, hnw⟩
  have hX' : ea_X w (ea_q (ea_h0 L xs)) (ea_A w.2.2.1 (ea_n (ea_h0 L xs)) s.heap.size) s s.heap := ⟨hX, hbl, fun h => by
    rcases h with ⟨i, hi, -⟩ | h
    · exact absurd hi (Nat.not_lt_zero _)
    · exact absurd hbl (Nat.not_lt.mpr h)⟩
  have hP : va_P w.1 ea_cl (ea_ws w.2.1 w.2.2.1 (ea_h0 L xs)) s.heap := fun k q hq => by cases (ea_at_inv hq).1
  have hl := lv_entry ([.ref b]) (n := 4) (Nat.le_of_ble_eq_true rfl)
  rw [lg_entry_eq]
  obtain ⟨t, a1, o, b1, b2, ⟨ho, -, -, -⟩, Ls, hF, hfree⟩ := k.2.2.2 p l e s m #[Value.ref b] below meth c w s.heap [] _ hC hA hK hX' (Nat.le_refl _) (Nat.le_refl _) rfl hP va_S.rf hl rfl T hT X'
  refine ⟨t, a1, o, b1, b2, ho, hF.1, hF.2.1, hF.2.2.weaken (fun y hy hlt => ?_) hn hs⟩
  rcases hfree y hy with ⟨i, hi, -⟩ | h
  · exact absurd hi (Nat.not_lt_zero _)
  · exact absurd hlt (Nat.not_lt.mpr h)
