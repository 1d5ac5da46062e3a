/-! the engine, 8: what nobody writes (String constants, their bytes, the words' row) -/
section ERO
variable {M : ea_M} {d : Nat} {h0 hE h : ea_H} {rv : Option ea_V} {pc : Nat} {lv : List (Nat × ea_V)} {st : List ea_V}
theorem ea_ldcR {p : Program} {l : Launch} {e : Env} {R : Room} {s : State} {m : MethodId} {args : Array Value} {below : List Frame} {meth : Method} {c : Code} {T : State} {locs : List Loc} {cells slots : Nat} (X : Stand p l e R s m args below meth c T locs cells slots) (hx : p.tables.exec = Jvm.exec) {own tx : String} {idx a : Nat} (hown : s.vm.findClass own = some m.cls) (hz : vk_R own idx tx a s) {g : JFrame} (hg : g.method = m) (hd : decode c.code g.pc = .ok (.ldc_w idx, 3)) (target : State) (hr : Steps p.tables e below (T.setTop { g with pc := g.pc + 3, stack := .ref a :: g.stack }) target) : Steps p.tables e below (T.setTop g) target := by
  obtain ⟨k, cf, i, a2, h1, h2, h3, -, h4, h5⟩ := Cond.stringRef_spec (args := #[]) hown hz.1
  have ha : a2 = a := by
    have h6 := hz.2.symm.trans h5
    cases h6
    rfl
  subst ha
  obtain ⟨k9, hk9, hf9⟩ := X.warmed.alike.2.2 _ _ h1
  have hres : k9.resolved[idx]? = some (some (.string a2)) := by
    rcases X.warmed.entry h1 hk9 idx with q | ⟨q, -⟩
    · exact q.trans h4
    · cases h4.symm.trans q
  subst hg
  jvm_step X.here [hx, hd, ldc_w.wp_string (e := e) (s := T) (f := g) X.here.top hk9 (by rw [hf9]; exact h2) h3 hres]
  exact hr
theorem ea_ldcS {idx : Nat} (k : Nat) (hk : k < 18) (hi : ea_sI.getD k 0 = idx) (ho : M.1.cls = "InlandMailsModel") (hd : decode M.2.1 pc = .ok (.ldc_w idx, 3)) (kk : ea_W M d h0 rv hE (pc + 3) lv (vO (1 + k) :: st) h) : ea_W M d h0 rv hE pc lv st h := by
  refine ⟨kk.1, kk.2.1, kk.2.2.1, fun p l e s m args below meth c w H locs ls hC hA hKK hX h1 h2 h3 hP hS hl hq => ?_⟩
  have hkk := kk.2.2.2 p l e s m args below meth c w H locs ls hC hA hKK hX h1 h2 h3 hP hS hl hq
  have hown := hC.1.2.2.2.1
  rw [ho] at hown
  subst hi
  intro T hT X
  obtain ⟨t, a, b⟩ := hkk T hT X
  exact ⟨t, ea_ldcR X hC.1.1 hown (hKK.2.2 k hk) (g := F0 m pc ls (ea_st w.2.2.1 w.2.2.2 st)) rfl (by rw [hC.1.2.1]; exact hd) t a, b⟩
theorem ea_getsW {idx : Nat} (hd : decode M.2.1 pc = .ok (.getstatic idx, 3)) (hf : Cond.fieldLink M.1.cls idx "InlandMails$Reader" "WORDS" "[J" ∈ ea_tbl) (kk : ea_W M d h0 rv hE (pc + 3) lv (vO 37 :: st) h) : ea_W M d h0 rv hE pc lv st h := by
  refine ⟨kk.1, kk.2.1, kk.2.2.1, fun p l e s m args below meth c w H locs ls hC hA hKK hX h1 h2 h3 hP hS hl hq => ?_⟩
  have hkk := kk.2.2.2 p l e s m args below meth c w H locs ls hC hA hKK hX h1 h2 h3 hP hS hl hq
  exact va_gets hC.1.1 hC.1.2.1 hX.2.2.2.2.2.1 hS hC.1.2.2.2.1 (hC.1.2.2.2.2 _ hf) (fun x q => q) hd hkk
theorem ea_getsC {idx : Nat} (hd : decode M.2.1 pc = .ok (.getstatic idx, 3)) (hf : Cond.fieldLink M.1.cls idx "java/lang/String" "COMPACT_STRINGS" "Z" ∈ ea_tbl) (kk : ea_W M d h0 rv hE (pc + 3) lv (vI 1 :: st) h) : ea_W M d h0 rv hE pc lv st h := by
  refine ⟨kk.1, kk.2.1, kk.2.2.1, fun p l e s m args below meth c w H locs ls hC hA hKK hX h1 h2 h3 hP hS hl hq => ?_⟩
  have hkk := kk.2.2.2 p l e s m args below meth c w H locs ls hC hA hKK hX h1 h2 h3 hP hS hl hq
  exact va_gets hC.1.1 hC.1.2.1 hX.2.2.2.2.2.2.1 hS hC.1.2.2.2.1 (hC.1.2.2.2.2 _ hf) (fun x q => q) hd hkk
theorem ea_fval {idx k : Nat} (hk : k < 18) (hd : decode M.2.1 pc = .ok (.getfield idx, 3)) (hf : Cond.fieldLink M.1.cls idx "java/lang/String" "value" "[B" ∈ ea_tbl) (kk : ea_W M d h0 rv hE (pc + 3) lv (vO (19 + k) :: st) h) : ea_W M d h0 rv hE pc lv (vO (1 + k) :: st) h := by
  refine ⟨kk.1, kk.2.1, kk.2.2.1, fun p l e s m args below meth c w H locs ls hC hA hKK hX h1 h2 h3 hP hS hl hq => ?_⟩
  have hkk := kk.2.2.2 p l e s m args below meth c w H locs ls hC hA hKK hX h1 h2 h3 hP hS hl hq
  exact vk_getf hC.1.1 hC.1.2.1 (hX.2.2.2.1.1 k hk).2.2.1 hS hC.1.2.2.2.1 (hC.1.2.2.2.2 _ hf) (fun x q => q) hd hkk
theorem ea_fcod {idx k : Nat} (hk : k < 18) (hd : decode M.2.1 pc = .ok (.getfield idx, 3)) (hf : Cond.fieldLink M.1.cls idx "java/lang/String" "coder" "B" ∈ ea_tbl) (kk : ea_W M d h0 rv hE (pc + 3) lv (vI 0 :: st) h) : ea_W M d h0 rv hE pc lv (vO (1 + k) :: st) h := by
  refine ⟨kk.1, kk.2.1, kk.2.2.1, fun p l e s m args below meth c w H locs ls hC hA hKK hX h1 h2 h3 hP hS hl hq => ?_⟩
  have hkk := kk.2.2.2 p l e s m args below meth c w H locs ls hC hA hKK hX h1 h2 h3 hP hS hl hq
  exact vk_getf hC.1.1 hC.1.2.1 (hX.2.2.2.1.1 k hk).2.1 hS hC.1.2.2.2.1 (hC.1.2.2.2.2 _ hf) (fun x q => q) hd hkk
theorem ea_blen {k : Nat} (hk : k < 18) (hd : decode M.2.1 pc = .ok (.arraylength, 1)) (kk : ea_W M d h0 rv hE (pc + 1) lv (vI (Int32.ofNat (ea_sL.getD k 0)) :: st) h) : ea_W M d h0 rv hE pc lv (vO (19 + k) :: st) h := by
  refine ⟨kk.1, kk.2.1, kk.2.2.1, fun p l e s m args below meth c w H locs ls hC hA hKK hX h1 h2 h3 hP hS hl hq => ?_⟩
  have hkk := kk.2.2.2 p l e s m args below meth c w H locs ls hC hA hKK hX h1 h2 h3 hP hS hl hq
  exact va_tlen hC.1.1 hC.1.2.1 (hX.2.2.2.1.1 k hk).2.2.2 hS rfl hd hkk
theorem ea_wlen (hd : decode M.2.1 pc = .ok (.arraylength, 1)) (kk : ea_W M d h0 rv hE (pc + 1) lv (vI 18 :: st) h) : ea_W M d h0 rv hE pc lv (vO 37 :: st) h := by
  refine ⟨kk.1, kk.2.1, kk.2.2.1, fun p l e s m args below meth c w H locs ls hC hA hKK hX h1 h2 h3 hP hS hl hq => ?_⟩
  have hkk := kk.2.2.2 p l e s m args below meth c w H locs ls hC hA hKK hX h1 h2 h3 hP hS hl hq
  exact va_tlen hC.1.1 hC.1.2.1 hX.2.2.2.2.1 hS rfl hd hkk
theorem ea_bld {k : Nat} {i : Int32} (hk : k < 18) (hd : decode M.2.1 pc = .ok (.baload, 1)) (hin : vp_in i (ea_sL.getD k 0)) (kk : ea_W M d h0 rv hE (pc + 1) lv (vI ((ea_sB.getD k []).getD i.toNatClampNeg 0) :: st) h) : ea_W M d h0 rv hE pc lv (vI i :: vO (19 + k) :: st) h := by
  refine ⟨kk.1, kk.2.1, kk.2.2.1, fun p l e s m args below meth c w H locs ls hC hA hKK hX h1 h2 h3 hP hS hl hq => ?_⟩
  have hkk := kk.2.2.2 p l e s m args below meth c w H locs ls hC hA hKK hX h1 h2 h3 hP hS hl hq
  exact va_tb hC.1.1 hC.1.2.1 (hX.2.2.2.1.1 k hk).2.2.2 hS hin rfl hd hkk
theorem ea_wld {i : Int32} (hd : decode M.2.1 pc = .ok (.laload, 1)) (hin : vp_in i 18) (kk : ea_W M d h0 rv hE (pc + 1) lv (vJ (ea_wd.getD i.toNatClampNeg 0) :: st) h) : ea_W M d h0 rv hE pc lv (vI i :: vO 37 :: st) h := by
  refine ⟨kk.1, kk.2.1, kk.2.2.1, fun p l e s m args below meth c w H locs ls hC hA hKK hX h1 h2 h3 hP hS hl hq => ?_⟩
  have hkk := kk.2.2.2 p l e s m args below meth c w H locs ls hC hA hKK hX h1 h2 h3 hP hS hl hq
  exact va_tl hC.1.1 hC.1.2.1 hX.2.2.2.2.1 hS hin rfl hd hkk
theorem ea_i2c {x : Int32} (hd : decode M.2.1 pc = .ok (.i2c, 1)) (kk : ea_W M d h0 rv hE (pc + 1) lv (vI ((x.toUInt32 % 65536).toInt32) :: st) h) : ea_W M d h0 rv hE pc lv (vI x :: st) h := ea_go (fun ad ro hC hl kk => lv_i2c hC.1.1 hC.1.2.1 hd rfl kk) kk
theorem ea_aloadO {q : Fin 4} {i r : Nat} (hd : decode M.2.1 pc = .ok (.aload_n q, 1)) (hi : (q : Nat) = i) (n : Nat) (hk : lv[n]? = some (i, vO r)) (kk : ea_W M d h0 rv hE (pc + 1) lv (vO r :: st) h) : ea_W M d h0 rv hE pc lv st h := ea_aload_nO hd hi n hk kk
/-- a static that is null or refers to what nobody looks at -/
theorem ea_getsQ {idx : Nat} (hd : decode M.2.1 pc = .ok (.getstatic idx, 3)) (hf : Cond.fieldLink M.1.cls idx "jdk/internal/util/Preconditions" "SIOOBE_FORMATTER" "Ljava/util/function/BiFunction;" ∈ ea_tbl) (g9 : ∀ ad ro ro2, ea_lv ad ro lv = ea_lv ad ro2 lv) (g8 : ∀ ad ro ro2, ea_st ad ro st = ea_st ad ro2 st) (g7 : ∀ ad ro ro2, rv.map (ea_v ad ro) = rv.map (ea_v ad ro2)) (k1 : ea_W M d h0 rv hE (pc + 3) lv (vR none :: st) h) (kk : ea_W M d h0 rv hE (pc + 3) lv (vO 38 :: st) h) : ea_W M d h0 rv hE pc lv st h := by
  refine ⟨kk.1, kk.2.1, kk.2.2.1, fun p l e s m args below meth c w H locs ls hC hA hKK hX h1 h2 h3 hP hS hl hq => ?_⟩
  rcases hX.2.2.2.2.2.2.2 with hz | ⟨t, hz⟩
  · exact va_gets hC.1.1 hC.1.2.1 hz hS hC.1.2.2.2.1 (hC.1.2.2.2.2 _ hf) (fun x q => q) hd (k1.2.2.2 p l e s m args below meth c w H locs ls hC hA hKK hX h1 h2 h3 hP hS hl hq)
  · let w2 : ea_G := (w.1, w.2.1, w.2.2.1, fun i => if i = 38 then t else w.2.2.2 i)
    have hr : ∀ i, i < 38 → w2.2.2.2 i = w.2.2.2 i := fun i hi => if_neg (by omega)
    have hKK2 : ea_K w2 s := ⟨hKK.1, hKK.2.1, fun i hi => by rw [hr (1 + i) (by omega)]; exact hKK.2.2 i hi⟩
    have hY := hX.2.2.2
    have hX2 : ea_X w2 (ea_q h0) (ea_A w2.2.2.1 (ea_n h0) s.heap.size) s s.heap := by
      refine ⟨?_, ?_, ?_, ⟨fun i hi => ?_, fun i j hi hj e => ?_⟩, ?_, ?_, hY.2.2.2⟩
      · rw [hr 0 (by omega)]; exact hX.1
      · rw [hr 0 (by omega)]; exact hX.2.1
      · rw [hr 0 (by omega)]; exact hX.2.2.1
      · simp only [hr (1 + i) (by omega), hr (19 + i) (by omega)]; exact hY.1.1 i hi
      · simp only [hr (1 + i) (by omega), hr (1 + j) (by omega)] at e; exact hY.1.2 i j hi hj e
      · rw [hr 37 (by omega)]; exact hY.2.1
      · rw [hr 37 (by omega)]; exact hY.2.2.1
    have hQ : ea_Qc w2 rv h0 hE s.heap.size = ea_Qc w rv h0 hE s.heap.size := by
      funext a b o u
      unfold ea_Qc
      rw [g7 w2.2.2.1 w2.2.2.2 w.2.2.2]
    have hkk := kk.2.2.2 p l e s m args below meth c w2 H locs ls hC hA hKK2 hX2 h1 h2 h3 hP hS (by rw [g9 w2.2.2.1 w2.2.2.2 w.2.2.2]; exact hl) hq
    rw [hQ] at hkk
    refine va_gets hC.1.1 hC.1.2.1 hz hS hC.1.2.2.2.1 (hC.1.2.2.2.2 _ hf) (fun x q => q) hd ?_
    have e9 : ea_st w2.2.2.1 w2.2.2.2 (vO 38 :: st) = .ref t :: ea_st w.2.2.1 w.2.2.2 st := by
      show (Value.ref (if (38 : Nat) = 38 then t else w.2.2.2 38)) :: ea_st w2.2.2.1 w2.2.2.2 st = _
      rw [if_pos rfl, g8 w2.2.2.1 w2.2.2.2 w.2.2.2]
    rw [e9] at hkk
    exact hkk
end ERO
