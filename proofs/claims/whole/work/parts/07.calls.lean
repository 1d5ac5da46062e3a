/-! the engine, 5: calls -/
def ea_MK (M : ea_M) (n : Nat) : Prop := M.2.2.1 ≤ 40 ∧ Cond.code M.1 M.2.1 M.2.2.1 M.2.2.2 ∈ ea_tbl ∧ Cond.initialized M.1.cls ∈ ea_tbl ∧ (M.1.cls ≠ "java/lang/invoke/MethodHandle" ∧ M.1.cls ≠ "java/lang/invoke/VarHandle") ∧ (parseMethodDescriptor M.1.desc).map (fun d => d.parameters.length) = some n
def ea_cats (st : List ea_V) : Nat := (st.map fun v => if ea_wide v then 2 else 1).sum
theorem ea_cats_eq (ad ro : Nat → Nat) (st : List ea_V) : ((ea_st ad ro st).map fun v => v.category).sum = ea_cats st := by
  unfold ea_cats ea_st
  rw [List.map_map]
  congr 1
  apply List.map_congr_left
  intro v _
  have hc := ea_wide_cat ad ro v
  simp only [Function.comp]
  cases hw : ea_wide v
  · rw [ea_cat1 hw]; simp
  · rw [ea_cat2 hw]; simp
theorem ea_blind {w : ea_G} {vs : List ea_V} {h : ea_H} {sz : Nat} : FrameBlind (ea_Pc w vs h sz) := by
  intro a U g mk hq
  obtain ⟨q0, q1, qK, qP, qX, qA⟩ := hq
  exact ⟨q0, q1, ea_K.same (s := U) (U := U.calling g mk a) rfl qK, qP, ea_X.moved (u := U) (U := U.calling g mk a) (Vm.Alike.refl U.vm) qX, qA⟩
section EC
variable {M : ea_M} {d : Nat} {h0 hE h : ea_H} {rv : Option ea_V} {pc : Nat} {lv : List (Nat × ea_V)} {st : List ea_V}
theorem ea_pre {p : Program} {l : Launch} {e : Env} {s : State} {H : Heap} {locs : List Loc} {w : ea_G} {vs : List ea_V} (hA : ea_Ad w.2.2.1 (ea_n h0) s.heap.size) (hK : ea_K w s) (hX : ea_X w (ea_q h0) (ea_A w.2.2.1 (ea_n h0) s.heap.size) s s.heap) (hq : ea_q h = ea_q h0) (h1 : ea_n h0 ≤ ea_n h) (h3 : H.size + ea_n h0 = s.heap.size + ea_n h)
    (hP : va_P w.1 ea_cl (ea_ws w.2.1 w.2.2.1 h) H) (hS : va_S (ea_A w.2.2.1 (ea_n h0) s.heap.size) s.heap H locs) : ∀ U : State, U.heap = H → s.WarmedH U.vm → ea_Pc w vs h H.size (vs.map (ea_v w.2.2.1 w.2.2.2)).toArray U := by
  intro U hU hW
  subst hU
  exact ⟨rfl, rfl, ea_K.warm hW hK, hP, (by rw [hq]; exact ((hX.kept hS.1 hS.2.1).narrow (hA.sub h1 h3)).moved hW.alike), hA.up h1 h3⟩
theorem ea_back {p : Program} {l : Launch} {e : Env} {s : State} {m : MethodId} {args : Array Value} {below : List Frame} {meth : Method} {c : Code} {w : ea_G} {H : Heap} {locs : List Loc} {ls : Array Slot} {a : Array Value} {st0 : List Value} {rv' : Option ea_V} {h' : ea_H}
    (hC : ea_Ctx M p s m args meth c) (hA : ea_Ad w.2.2.1 (ea_n h0) s.heap.size) (hK : ea_K w s) (hX : ea_X w (ea_q h0) (ea_A w.2.2.1 (ea_n h0) s.heap.size) s s.heap) (hq : ea_q h = ea_q h0) (h1 : ea_n h0 ≤ ea_n h) (h2 : ea_s h0 ≤ ea_s h) (h3 : H.size + ea_n h0 = s.heap.size + ea_n h)
    (hS : va_S (ea_A w.2.2.1 (ea_n h0) s.heap.size) s.heap H locs) (hl : lv_has ls M.2.2.1 (ea_lv w.2.2.1 w.2.2.2 lv)) (g1 : ea_n h ≤ ea_n h') (g2 : ea_s h ≤ ea_s h') (g3 : ea_q h' = ea_q h)
    (hr : va_Run p l e (ea_R d (ea_n hE - ea_n h0) (ea_s hE - ea_s h0)) s m args below meth c H locs (ea_n h - ea_n h0) (ea_s h - ea_s h0) (ea_n h' - ea_n h) (ea_s h' - ea_s h) (F0 m pc ls st0) (ea_st w.2.2.1 w.2.2.2 st) (ea_Qc w rv' h h' H.size a) (ea_A w.2.2.1 (ea_n h) H.size))
    (kk : ea_W M d h0 rv hE (pc + 3) lv (rv'.toList ++ st) h') :
    W p l e (ea_R d (ea_n hE - ea_n h0) (ea_s hE - ea_s h0)) s m args below meth c H locs (ea_n h - ea_n h0) (ea_s h - ea_s h0) (MQ below (ea_Qc w rv h0 hE s.heap.size) args s (ea_n hE - ea_n h0) (ea_s hE - ea_s h0) (ea_A w.2.2.1 (ea_n h0) s.heap.size)) (F0 m pc ls st0) := by
  intro T hT X
  obtain ⟨v, st₀, t, T', L, q0, X', hL, e1, e2, ⟨hv, hz, hP', hF⟩, hst⟩ := hr T hT X
  have hv' : v = rv'.map (ea_v w.2.2.1 w.2.2.2) := by injection hv
  subst hv'
  have hsub := hA.sub h1 h3
  have hz1 : T'.heap.size + ea_n h0 = s.heap.size + ea_n h' := by rw [e1]; omega
  have hS' : va_S (ea_A w.2.2.1 (ea_n h0) s.heap.size) s.heap T'.heap (locs ++ L) := by
    refine ⟨Nat.le_trans hS.1 (by rw [e1]; omega), fun q q1 q2 => ?_, fun q hq => ?_⟩
    · rw [e1, hF.2 q (by rw [q0]; exact Nat.lt_of_lt_of_le q1 hS.1) (fun z => q2 (hsub q z)), q0]
      exact hS.2.1 q q1 q2
    · rcases List.mem_append.mp hq with hq | hq
      · exact hS.2.2 q hq
      · exact hsub _ (hL q hq)
  have hkk := kk.2.2.2 p l e s m args below meth c w T'.heap (locs ++ L) ls hC hA hK hX (Nat.le_trans h1 g1) (Nat.le_trans h2 g2) hz1 (by rw [e1]; exact hP') hS' hl (g3.trans hq)
  have z1 : ea_n h - ea_n h0 + (ea_n h' - ea_n h) = ea_n h' - ea_n h0 := by omega
  have z2 : ea_s h - ea_s h0 + (ea_s h' - ea_s h) = ea_s h' - ea_s h0 := by omega
  rw [z1, z2] at X'
  obtain ⟨t2, a1, b1⟩ := hkk T' rfl X'
  have hst2 : ea_st w.2.2.1 w.2.2.2 (rv'.toList ++ st) = (rv'.map (ea_v w.2.2.1 w.2.2.2)).toList ++ ea_st w.2.2.1 w.2.2.2 st := by
    cases rv' <;> simp
  rw [hst2] at a1
  exact ⟨t2, hst t2 a1, b1⟩
theorem ea_callV {M' : ea_M} {d' n idx : Nat} {As : List ea_V} {rv' : Option ea_V} {h' : ea_H} {b ci : Nat} {T : u_T} (hd : decode M.2.1 pc = .ok (.invokevirtual idx, 3)) (hMK : ea_MK M' n) (hM : ea_Met M' d' (vR (some b) :: As) h rv' h') (hdd : d' + 1 ≤ d) (hn : As.length = n) (hcat : ea_cats st ≤ 8) (hlk : Cond.methodLink M.1.cls idx M'.1 ∈ ea_tbl) (hin : Cond.instanceMethod M'.1 ∈ ea_tbl) (hse : Cond.selects M'.1.cls M'.1 M'.1 ∈ ea_tbl) (hcl : ea_cl[ci]? = some (M'.1.cls, T, ea_N ci)) (h20 : ci < 20) (hb : b < ea_n h) (hcb : ea_c h b = ci) (kk : ea_W M d h0 rv hE (pc + 3) lv (rv'.toList ++ st) h') : ea_W M d h0 rv hE pc lv (As.reverse ++ vR (some b) :: st) h := by
  refine ⟨Nat.le_trans hM.1 kk.1, Nat.le_trans hM.2.1 kk.2.1, kk.2.2.1.trans hM.2.2.1, fun p l e s m args below meth c w H locs ls hC hA hK hX h1 h2 h3 hP hS hl hq => ?_⟩
  have hMl := hM.2.2.2 l w H.size
  have hpre := fun U hU hW => ea_pre (h := h) (p := p) (l := l) (e := e) (vs := (vR (some b) :: As)) hA hK hX hq h1 h3 hP hS U hU hW
  have hlen : (As.map (ea_v w.2.2.1 w.2.2.2)).length = n := by simpa using hn
  have hroom := lv_room (pc := pc) (ls := ls) (m := m) (rest := (ea_st w.2.2.1 w.2.2.2 (As.reverse ++ vR (some b) :: st))) (st := ea_st w.2.2.1 w.2.2.2 st) (by rw [ea_cats_eq]; exact hcat)
  have hfit : ea_n h - ea_n h0 + (ea_n h' - ea_n h) ≤ ea_n hE - ea_n h0 ∧ ea_s h - ea_s h0 + (ea_s h' - ea_s h) ≤ ea_s hE - ea_s h0 := by
    have a1 := kk.1
    have a2 := kk.2.1
    have a3 := hM.1
    have a4 := hM.2.1
    omega
  have hts := hC.1.2.2.2.2
  have hG : GoodIn ea_tbl (Cond.code M'.1 M'.2.1 M'.2.2.1 M'.2.2.2 :: ea_tbl) := fun x hx => ea_goodIn x (by rcases List.mem_cons.mp hx with rfl | hx; exact hMK.2.1; exact hx)
  have he : (ea_ws w.2.1 w.2.2.1 h)[b]? = some (w.2.2.1 b, .inr (ci, (List.range (ea_N ci)).map (ea_fv w.2.2.1 h ci b))) := by rw [ea_at hb, ea_e_obj hcb h20]
  have hrecv := va_recv hK.1 hP hcl (he : (ea_ws w.2.1 w.2.2.1 h)[b]? = some (w.2.2.1 b, .inr (ci, (List.range (ea_N ci)).map (ea_fv w.2.2.1 h ci b))))
  have hstk : ea_st w.2.2.1 w.2.2.2 (As.reverse ++ vR (some b) :: st) = (As.map (ea_v w.2.2.1 w.2.2.2)).reverse ++ .ref (w.2.2.1 b) :: ea_st w.2.2.1 w.2.2.2 st := by
    unfold ea_st
    rw [List.map_append, List.map_reverse]
    rfl
  rw [hstk]
  refine ea_back hC hA hK hX hq h1 h2 h3 hS hl hM.1 hM.2.1 hM.2.2.1 (va_runV (b := w.2.2.1 b) (As := As.map (ea_v w.2.2.1 w.2.2.2)) hC.1 hMl ⟨callB_of n hts hG rfl rfl rfl (hts _ hMK.2.2.1) (hts _ hlk) ⟨hMK.2.2.2.1.1, hMK.2.2.2.1.2, hMK.2.2.2.2⟩ ⟨Nat.le_trans hdd (Nat.le_refl _), by have := hMK.1; show 8 + (M'.2.2.1 + 11) + 64 * d' ≤ 64 * d; omega⟩, hts _ hin, hts _ hse⟩ ⟨ea_blind, hrecv, hpre⟩ rfl hlen hl.1 rfl hroom hd hfit) kk
theorem ea_callI {M' : ea_M} {d' n idx : Nat} {As : List ea_V} {rv' : Option ea_V} {h' : ea_H} {b : Nat} (hd : decode M.2.1 pc = .ok (.invokespecial idx, 3)) (hMK : ea_MK M' n) (hM : ea_Met M' d' (vR (some b) :: As) h rv' h') (hdd : d' + 1 ≤ d) (hn : As.length = n) (hcat : ea_cats st ≤ 8) (hlk : Cond.methodLink M.1.cls idx M'.1 ∈ ea_tbl) (hin : Cond.instanceMethod M'.1 ∈ ea_tbl) (hnm : M'.1.name = "<init>") (hrt : M'.2.2.2 = none) (kk : ea_W M d h0 rv hE (pc + 3) lv (rv'.toList ++ st) h') : ea_W M d h0 rv hE pc lv (As.reverse ++ vR (some b) :: st) h := by
  refine ⟨Nat.le_trans hM.1 kk.1, Nat.le_trans hM.2.1 kk.2.1, kk.2.2.1.trans hM.2.2.1, fun p l e s m args below meth c w H locs ls hC hA hK hX h1 h2 h3 hP hS hl hq => ?_⟩
  have hMl := hM.2.2.2 l w H.size
  have hpre := fun U hU hW => ea_pre (h := h) (p := p) (l := l) (e := e) (vs := (vR (some b) :: As)) hA hK hX hq h1 h3 hP hS U hU hW
  have hlen : (As.map (ea_v w.2.2.1 w.2.2.2)).length = n := by simpa using hn
  have hroom := lv_room (pc := pc) (ls := ls) (m := m) (rest := (ea_st w.2.2.1 w.2.2.2 (As.reverse ++ vR (some b) :: st))) (st := ea_st w.2.2.1 w.2.2.2 st) (by rw [ea_cats_eq]; exact hcat)
  have hfit : ea_n h - ea_n h0 + (ea_n h' - ea_n h) ≤ ea_n hE - ea_n h0 ∧ ea_s h - ea_s h0 + (ea_s h' - ea_s h) ≤ ea_s hE - ea_s h0 := by
    have a1 := kk.1
    have a2 := kk.2.1
    have a3 := hM.1
    have a4 := hM.2.1
    omega
  have hts := hC.1.2.2.2.2
  have hG : GoodIn ea_tbl (Cond.code M'.1 M'.2.1 M'.2.2.1 M'.2.2.2 :: ea_tbl) := fun x hx => ea_goodIn x (by rcases List.mem_cons.mp hx with rfl | hx; exact hMK.2.1; exact hx)
  have hstk : ea_st w.2.2.1 w.2.2.2 (As.reverse ++ vR (some b) :: st) = (As.map (ea_v w.2.2.1 w.2.2.2)).reverse ++ .ref (w.2.2.1 b) :: ea_st w.2.2.1 w.2.2.2 st := by
    unfold ea_st
    rw [List.map_append, List.map_reverse]
    rfl
  rw [hstk]
  rw [hrt] at hMl hG
  have hcd := hMK.2.1
  rw [hrt] at hcd
  refine ea_back hC hA hK hX hq h1 h2 h3 hS hl hM.1 hM.2.1 hM.2.2.1 (va_runI (b := w.2.2.1 b) (As := As.map (ea_v w.2.2.1 w.2.2.2)) hC.1 hMl ⟨callB_of n hts hG rfl rfl rfl (hts _ hMK.2.2.1) (hts _ hlk) ⟨hMK.2.2.2.1.1, hMK.2.2.2.1.2, hMK.2.2.2.2⟩ ⟨Nat.le_trans hdd (Nat.le_refl _), by have := hMK.1; show 8 + (M'.2.2.1 + 11) + 64 * d' ≤ 64 * d; omega⟩, hnm, hts _ hin⟩ ⟨ea_blind, hpre⟩ rfl hlen hl.1 rfl hroom hd hfit) kk
theorem ea_callS {M' : ea_M} {d' n idx : Nat} {As : List ea_V} {rv' : Option ea_V} {h' : ea_H} (hd : decode M.2.1 pc = .ok (.invokestatic idx, 3)) (hMK : ea_MK M' n) (hM : ea_Met M' d' As h rv' h') (hdd : d' + 1 ≤ d) (hn : As.length = n) (hcat : ea_cats st ≤ 8) (hlk : Cond.methodLink M.1.cls idx M'.1 ∈ ea_tbl) (hst : Cond.static M'.1 ∈ ea_tbl) (kk : ea_W M d h0 rv hE (pc + 3) lv (rv'.toList ++ st) h') : ea_W M d h0 rv hE pc lv (As.reverse ++ st) h := by
  refine ⟨Nat.le_trans hM.1 kk.1, Nat.le_trans hM.2.1 kk.2.1, kk.2.2.1.trans hM.2.2.1, fun p l e s m args below meth c w H locs ls hC hA hK hX h1 h2 h3 hP hS hl hq => ?_⟩
  have hMl := hM.2.2.2 l w H.size
  have hpre := fun U hU hW => ea_pre (h := h) (p := p) (l := l) (e := e) (vs := As) hA hK hX hq h1 h3 hP hS U hU hW
  have hlen : (As.map (ea_v w.2.2.1 w.2.2.2)).length = n := by simpa using hn
  have hroom := lv_room (pc := pc) (ls := ls) (m := m) (rest := (ea_st w.2.2.1 w.2.2.2 (As.reverse ++ st))) (st := ea_st w.2.2.1 w.2.2.2 st) (by rw [ea_cats_eq]; exact hcat)
  have hfit : ea_n h - ea_n h0 + (ea_n h' - ea_n h) ≤ ea_n hE - ea_n h0 ∧ ea_s h - ea_s h0 + (ea_s h' - ea_s h) ≤ ea_s hE - ea_s h0 := by
    have a1 := kk.1
    have a2 := kk.2.1
    have a3 := hM.1
    have a4 := hM.2.1
    omega
  have hts := hC.1.2.2.2.2
  have hG : GoodIn ea_tbl (Cond.code M'.1 M'.2.1 M'.2.2.1 M'.2.2.2 :: ea_tbl) := fun x hx => ea_goodIn x (by rcases List.mem_cons.mp hx with rfl | hx; exact hMK.2.1; exact hx)
  have hstk : ea_st w.2.2.1 w.2.2.2 (As.reverse ++ st) = (As.map (ea_v w.2.2.1 w.2.2.2)).reverse ++ ea_st w.2.2.1 w.2.2.2 st := by
    unfold ea_st
    rw [List.map_append, List.map_reverse]
  rw [hstk]
  refine ea_back hC hA hK hX hq h1 h2 h3 hS hl hM.1 hM.2.1 hM.2.2.1 (va_runS (As := As.map (ea_v w.2.2.1 w.2.2.2)) hC.1 hMl ⟨callB_of n hts hG rfl rfl rfl (hts _ hMK.2.2.1) (hts _ hlk) ⟨hMK.2.2.2.1.1, hMK.2.2.2.1.2, hMK.2.2.2.2⟩ ⟨Nat.le_trans hdd (Nat.le_refl _), by have := hMK.1; show 8 + (M'.2.2.1 + 11) + 64 * d' ≤ 64 * d; omega⟩, hts _ hst⟩ ⟨ea_blind, hpre⟩ rfl hlen hl.1 rfl hroom hd hfit) kk
theorem ea_callVN {M' : ea_M} {d' n idx : Nat} {As : List ea_V} {rv' : Option ea_V} {h' : ea_H} {b ci : Nat} {T : u_T} (hd : decode M.2.1 pc = .ok (.invokevirtual idx, 3)) (hMK : ea_MK M' n) (hM : ea_Met M' d' (vR (some b) :: As) h rv' h') (hdd : d' + 1 ≤ d) (hn : As.length = n) (hcat : ea_cats st ≤ 8) {host : String} (hlk : Cond.methodLinkNest M.1.cls idx M'.1 host ∈ ea_nl) (hin : Cond.instanceMethod M'.1 ∈ ea_tbl) (hse : Cond.selects M'.1.cls M'.1 M'.1 ∈ ea_tbl) (hcl : ea_cl[ci]? = some (M'.1.cls, T, ea_N ci)) (h20 : ci < 20) (hb : b < ea_n h) (hcb : ea_c h b = ci) (kk : ea_W M d h0 rv hE (pc + 3) lv (rv'.toList ++ st) h') : ea_W M d h0 rv hE pc lv (As.reverse ++ vR (some b) :: st) h := by
  refine ⟨Nat.le_trans hM.1 kk.1, Nat.le_trans hM.2.1 kk.2.1, kk.2.2.1.trans hM.2.2.1, fun p l e s m args below meth c w H locs ls hC hA hK hX h1 h2 h3 hP hS hl hq => ?_⟩
  have hMl := hM.2.2.2 l w H.size
  have hpre := fun U hU hW => ea_pre (h := h) (p := p) (l := l) (e := e) (vs := (vR (some b) :: As)) hA hK hX hq h1 h3 hP hS U hU hW
  have hlen : (As.map (ea_v w.2.2.1 w.2.2.2)).length = n := by simpa using hn
  have hroom := lv_room (pc := pc) (ls := ls) (m := m) (rest := (ea_st w.2.2.1 w.2.2.2 (As.reverse ++ vR (some b) :: st))) (st := ea_st w.2.2.1 w.2.2.2 st) (by rw [ea_cats_eq]; exact hcat)
  have hfit : ea_n h - ea_n h0 + (ea_n h' - ea_n h) ≤ ea_n hE - ea_n h0 ∧ ea_s h - ea_s h0 + (ea_s h' - ea_s h) ≤ ea_s hE - ea_s h0 := by
    have a1 := kk.1
    have a2 := kk.2.1
    have a3 := hM.1
    have a4 := hM.2.1
    omega
  have hts := hC.1.2.2.2.2
  have hG : GoodIn ea_tbl (Cond.code M'.1 M'.2.1 M'.2.2.1 M'.2.2.2 :: ea_tbl) := fun x hx => ea_goodIn x (by rcases List.mem_cons.mp hx with rfl | hx; exact hMK.2.1; exact hx)
  have he : (ea_ws w.2.1 w.2.2.1 h)[b]? = some (w.2.2.1 b, .inr (ci, (List.range (ea_N ci)).map (ea_fv w.2.2.1 h ci b))) := by rw [ea_at hb, ea_e_obj hcb h20]
  have hrecv := va_recv hK.1 hP hcl (he : (ea_ws w.2.1 w.2.2.1 h)[b]? = some (w.2.2.1 b, .inr (ci, (List.range (ea_N ci)).map (ea_fv w.2.2.1 h ci b))))
  have hstk : ea_st w.2.2.1 w.2.2.2 (As.reverse ++ vR (some b) :: st) = (As.map (ea_v w.2.2.1 w.2.2.2)).reverse ++ .ref (w.2.2.1 b) :: ea_st w.2.2.1 w.2.2.2 st := by
    unfold ea_st
    rw [List.map_append, List.map_reverse]
    rfl
  rw [hstk]
  refine ea_back hC hA hK hX hq h1 h2 h3 hS hl hM.1 hM.2.1 hM.2.2.1 (va_runVN (b := w.2.2.1 b) (As := As.map (ea_v w.2.2.1 w.2.2.2)) hC.1 hMl ⟨va_cnB n hts hG rfl rfl rfl (hK.2.1 _ hlk) (hts _ hMK.2.2.1) ⟨hMK.2.2.2.1.1, hMK.2.2.2.1.2, hMK.2.2.2.2⟩ ⟨Nat.le_trans hdd (Nat.le_refl _), by have := hMK.1; show 8 + (M'.2.2.1 + 11) + 64 * d' ≤ 64 * d; omega⟩, hts _ hin, hts _ hse⟩ ⟨ea_blind, hrecv, hpre⟩ rfl hlen hl.1 rfl hroom hd hfit) kk
theorem ea_callIN {M' : ea_M} {d' n idx : Nat} {As : List ea_V} {rv' : Option ea_V} {h' : ea_H} {b : Nat} (hd : decode M.2.1 pc = .ok (.invokespecial idx, 3)) (hMK : ea_MK M' n) (hM : ea_Met M' d' (vR (some b) :: As) h rv' h') (hdd : d' + 1 ≤ d) (hn : As.length = n) (hcat : ea_cats st ≤ 8) {host : String} (hlk : Cond.methodLinkNest M.1.cls idx M'.1 host ∈ ea_nl) (hin : Cond.instanceMethod M'.1 ∈ ea_tbl) (hnm : M'.1.name = "<init>") (hrt : M'.2.2.2 = none) (kk : ea_W M d h0 rv hE (pc + 3) lv (rv'.toList ++ st) h') : ea_W M d h0 rv hE pc lv (As.reverse ++ vR (some b) :: st) h := by
  refine ⟨Nat.le_trans hM.1 kk.1, Nat.le_trans hM.2.1 kk.2.1, kk.2.2.1.trans hM.2.2.1, fun p l e s m args below meth c w H locs ls hC hA hK hX h1 h2 h3 hP hS hl hq => ?_⟩
  have hMl := hM.2.2.2 l w H.size
  have hpre := fun U hU hW => ea_pre (h := h) (p := p) (l := l) (e := e) (vs := (vR (some b) :: As)) hA hK hX hq h1 h3 hP hS U hU hW
  have hlen : (As.map (ea_v w.2.2.1 w.2.2.2)).length = n := by simpa using hn
  have hroom := lv_room (pc := pc) (ls := ls) (m := m) (rest := (ea_st w.2.2.1 w.2.2.2 (As.reverse ++ vR (some b) :: st))) (st := ea_st w.2.2.1 w.2.2.2 st) (by rw [ea_cats_eq]; exact hcat)
  have hfit : ea_n h - ea_n h0 + (ea_n h' - ea_n h) ≤ ea_n hE - ea_n h0 ∧ ea_s h - ea_s h0 + (ea_s h' - ea_s h) ≤ ea_s hE - ea_s h0 := by
    have a1 := kk.1
    have a2 := kk.2.1
    have a3 := hM.1
    have a4 := hM.2.1
    omega
  have hts := hC.1.2.2.2.2
  have hG : GoodIn ea_tbl (Cond.code M'.1 M'.2.1 M'.2.2.1 M'.2.2.2 :: ea_tbl) := fun x hx => ea_goodIn x (by rcases List.mem_cons.mp hx with rfl | hx; exact hMK.2.1; exact hx)
  have hstk : ea_st w.2.2.1 w.2.2.2 (As.reverse ++ vR (some b) :: st) = (As.map (ea_v w.2.2.1 w.2.2.2)).reverse ++ .ref (w.2.2.1 b) :: ea_st w.2.2.1 w.2.2.2 st := by
    unfold ea_st
    rw [List.map_append, List.map_reverse]
    rfl
  rw [hstk]
  rw [hrt] at hMl hG
  have hcd := hMK.2.1
  rw [hrt] at hcd
  refine ea_back hC hA hK hX hq h1 h2 h3 hS hl hM.1 hM.2.1 hM.2.2.1 (va_runIN (b := w.2.2.1 b) (As := As.map (ea_v w.2.2.1 w.2.2.2)) hC.1 hMl ⟨va_cnB n hts hG rfl rfl rfl (hK.2.1 _ hlk) (hts _ hMK.2.2.1) ⟨hMK.2.2.2.1.1, hMK.2.2.2.1.2, hMK.2.2.2.2⟩ ⟨Nat.le_trans hdd (Nat.le_refl _), by have := hMK.1; show 8 + (M'.2.2.1 + 11) + 64 * d' ≤ 64 * d; omega⟩, hnm, hts _ hin⟩ ⟨ea_blind, hpre⟩ rfl hlen hl.1 rfl hroom hd hfit) kk
theorem ea_callSN {M' : ea_M} {d' n idx : Nat} {As : List ea_V} {rv' : Option ea_V} {h' : ea_H} (hd : decode M.2.1 pc = .ok (.invokestatic idx, 3)) (hMK : ea_MK M' n) (hM : ea_Met M' d' As h rv' h') (hdd : d' + 1 ≤ d) (hn : As.length = n) (hcat : ea_cats st ≤ 8) {host : String} (hlk : Cond.methodLinkNest M.1.cls idx M'.1 host ∈ ea_nl) (hst : Cond.static M'.1 ∈ ea_tbl) (kk : ea_W M d h0 rv hE (pc + 3) lv (rv'.toList ++ st) h') : ea_W M d h0 rv hE pc lv (As.reverse ++ st) h := by
  refine ⟨Nat.le_trans hM.1 kk.1, Nat.le_trans hM.2.1 kk.2.1, kk.2.2.1.trans hM.2.2.1, fun p l e s m args below meth c w H locs ls hC hA hK hX h1 h2 h3 hP hS hl hq => ?_⟩
  have hMl := hM.2.2.2 l w H.size
  have hpre := fun U hU hW => ea_pre (h := h) (p := p) (l := l) (e := e) (vs := As) hA hK hX hq h1 h3 hP hS U hU hW
  have hlen : (As.map (ea_v w.2.2.1 w.2.2.2)).length = n := by simpa using hn
  have hroom := lv_room (pc := pc) (ls := ls) (m := m) (rest := (ea_st w.2.2.1 w.2.2.2 (As.reverse ++ st))) (st := ea_st w.2.2.1 w.2.2.2 st) (by rw [ea_cats_eq]; exact hcat)
  have hfit : ea_n h - ea_n h0 + (ea_n h' - ea_n h) ≤ ea_n hE - ea_n h0 ∧ ea_s h - ea_s h0 + (ea_s h' - ea_s h) ≤ ea_s hE - ea_s h0 := by
    have a1 := kk.1
    have a2 := kk.2.1
    have a3 := hM.1
    have a4 := hM.2.1
    omega
  have hts := hC.1.2.2.2.2
  have hG : GoodIn ea_tbl (Cond.code M'.1 M'.2.1 M'.2.2.1 M'.2.2.2 :: ea_tbl) := fun x hx => ea_goodIn x (by rcases List.mem_cons.mp hx with rfl | hx; exact hMK.2.1; exact hx)
  have hstk : ea_st w.2.2.1 w.2.2.2 (As.reverse ++ st) = (As.map (ea_v w.2.2.1 w.2.2.2)).reverse ++ ea_st w.2.2.1 w.2.2.2 st := by
    unfold ea_st
    rw [List.map_append, List.map_reverse]
  rw [hstk]
  refine ea_back hC hA hK hX hq h1 h2 h3 hS hl hM.1 hM.2.1 hM.2.2.1 (va_runSN (As := As.map (ea_v w.2.2.1 w.2.2.2)) hC.1 hMl ⟨va_cnB n hts hG rfl rfl rfl (hK.2.1 _ hlk) (hts _ hMK.2.2.1) ⟨hMK.2.2.2.1.1, hMK.2.2.2.1.2, hMK.2.2.2.2⟩ ⟨Nat.le_trans hdd (Nat.le_refl _), by have := hMK.1; show 8 + (M'.2.2.1 + 11) + 64 * d' ≤ 64 * d; omega⟩, hts _ hst, trivial⟩ ⟨ea_blind, hpre⟩ rfl hlen hl.1 rfl hroom hd hfit) kk
theorem ea_objInit {b idx : Nat} (hd : decode M.2.1 pc = .ok (.invokespecial idx, 3)) (hlk : Cond.methodLink M.1.cls idx Lib.objectInit ∈ ea_tbl) (hin : Cond.instanceMethod Lib.objectInit ∈ ea_tbl) (hcd : Cond.code Lib.objectInit ⟨#[0xb1]⟩ 1 none ∈ ea_tbl) (hdd : 1 ≤ d) (hcat : ea_cats st ≤ 8) (kk : ea_W M d h0 rv hE (pc + 3) lv st h) : ea_W M d h0 rv hE pc lv (vR (some b) :: st) h := by
  refine ⟨kk.1, kk.2.1, kk.2.2.1, fun p l e s m args below meth c w H locs ls hC hA hK hX h1 h2 h3 hP hS hl hq => ?_⟩
  have hkk := kk.2.2.2 p l e s m args below meth c w H locs ls hC hA hK hX h1 h2 h3 hP hS hl hq
  have hroom := lv_room (pc := pc) (ls := ls) (m := m) (rest := ea_st w.2.2.1 w.2.2.2 (vR (some b) :: st)) (st := ea_st w.2.2.1 w.2.2.2 st) (by rw [ea_cats_eq]; exact hcat)
  exact W.objInit hC.1.1 hC.1.2.1 hC.1.2.2.2.1 (hC.1.2.2.2.2 _ hlk) (hC.1.2.2.2.2 _ hin) (hC.1.2.2.2.2 _ hcd) rfl (by rw [hC.1.2.2.1]; exact hl.1) rfl hd hdd (Nat.le_trans (Nat.add_le_add_right hroom 12) (by show 8 + 12 ≤ 64 * d; omega)) hkk
end EC
