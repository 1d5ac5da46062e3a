/-! the engine, 2: a row an instruction -/
section EA
variable {M : ea_M} {d : Nat} {h0 hE h : ea_H} {rv : Option ea_V} {pc : Nat} {lv : List (Nat × ea_V)} {st : List ea_V}
theorem ea_go {pc' : Nat} {st' : List ea_V} (hstep : ∀ {p : Program} {l : Launch} {e : Env} {R : Room} {s : State} {m : MethodId} {args : Array Value} {below : List Frame} {meth : Method} {c : Code} {H : Heap} {locs : List Loc} {cells slots : Nat} {Q : State → Prop} {ls : Array Slot} (ad ro : Nat → Nat), ea_Ctx M p s m args meth c → lv_has ls M.2.2.1 (ea_lv ad ro lv) → W p l e R s m args below meth c H locs cells slots Q (F0 m pc' ls (ea_st ad ro st')) → W p l e R s m args below meth c H locs cells slots Q (F0 m pc ls (ea_st ad ro st)))
    (k : ea_W M d h0 rv hE pc' lv st' h) : ea_W M d h0 rv hE pc lv st h :=
  ⟨k.1, k.2.1, k.2.2.1, fun p l e s m args below meth c w H locs ls hC hA hK hX h1 h2 h3 hP hS hl hq => hstep w.2.2.1 w.2.2.2 hC hl (k.2.2.2 p l e s m args below meth c w H locs ls hC hA hK hX h1 h2 h3 hP hS hl hq)⟩
theorem ea_gol {pc' : Nat} {st' : List ea_V} {lv' : List (Nat × ea_V)} (hstep : ∀ {p : Program} {l : Launch} {e : Env} {R : Room} {s : State} {m : MethodId} {args : Array Value} {below : List Frame} {meth : Method} {c : Code} {H : Heap} {locs : List Loc} {cells slots : Nat} {Q : State → Prop} {ls : Array Slot} (ad ro : Nat → Nat), ea_Ctx M p s m args meth c → lv_has ls M.2.2.1 (ea_lv ad ro lv) → (∀ ls' : Array Slot, lv_has ls' M.2.2.1 (ea_lv ad ro lv') → W p l e R s m args below meth c H locs cells slots Q (F0 m pc' ls' (ea_st ad ro st'))) → W p l e R s m args below meth c H locs cells slots Q (F0 m pc ls (ea_st ad ro st)))
    (k : ea_W M d h0 rv hE pc' lv' st' h) : ea_W M d h0 rv hE pc lv st h :=
  ⟨k.1, k.2.1, k.2.2.1, fun p l e s m args below meth c w H locs ls hC hA hK hX h1 h2 h3 hP hS hl hq => hstep w.2.2.1 w.2.2.2 hC hl fun ls' hl' => (k.2.2.2 p l e s m args below meth c w H locs ls' hC hA hK hX h1 h2 h3 hP hS hl' hq)⟩
theorem ea_lvat {ad ro : Nat → Nat} {ls : Array Slot} {n k i : Nat} {v : ea_V} (hl : lv_has ls n (ea_lv ad ro lv)) (hk : lv[k]? = some (i, v)) : ls[i]? = some (.val (ea_v ad ro v)) := lv_at hl k (by rw [List.getElem?_map, hk]; rfl)
/-- a store into a local: what it writes, and which of the others are kept, by their places -/
def ea_put (lv : List (Nat × ea_V)) (i : Nat) (v : ea_V) : List (Nat × ea_V) := (i, v) :: lv.filter (fun q => !(q.1 == i) && !(q.1 + 1 == i && ea_wide q.2))
def ea_put2 (lv : List (Nat × ea_V)) (i : Nat) (v : ea_V) : List (Nat × ea_V) := (i, v) :: lv.filter (fun q => !(q.1 == i) && (!(q.1 == i + 1) && !(q.1 + 1 == i && ea_wide q.2)))
def ea_pick (l : List (Nat × ea_V)) (ks : List Nat) : List (Nat × ea_V) := ks.filterMap fun k => l[k]?
theorem ea_picked {ad ro : Nat → Nat} {ls : Array Slot} {n : Nat} {l l' : List (Nat × ea_V)} (hl : lv_has ls n (ea_lv ad ro l)) (ks : List Nat) (hk : ea_pick l ks = l') : lv_has ls n (ea_lv ad ro l') := by
  refine lv_sub hl ks ?_
  rw [← hk]
  simp only [lv_pick, ea_pick, ea_lv, List.map_filterMap, List.getElem?_map]
theorem ea_putlv (ad ro : Nat → Nat) (i : Nat) (v : ea_V) : ea_lv ad ro (ea_put lv i v) = (i, ea_v ad ro v) :: (ea_lv ad ro lv).filter (fun q => !(q.1 == i) && !(q.1 + 1 == i && q.2.category == 2)) := by
  simp only [ea_put, ea_lv, List.map_cons, List.filter_map]
  congr 2
  apply List.filter_congr
  intro q _
  simp only [Function.comp, ea_wide_cat]
theorem ea_putlv2 (ad ro : Nat → Nat) (i : Nat) (v : ea_V) : ea_lv ad ro (ea_put2 lv i v) = (i, ea_v ad ro v) :: (ea_lv ad ro lv).filter (fun q => !(q.1 == i) && (!(q.1 == i + 1) && !(q.1 + 1 == i && q.2.category == 2))) := by
  simp only [ea_put2, ea_lv, List.map_cons, List.filter_map]
  congr 2
  apply List.filter_congr
  intro q _
  simp only [Function.comp, ea_wide_cat]
theorem ea_fewer {lv' : List (Nat × ea_V)} (ks : List Nat) (hk : ea_pick lv ks = lv') (k : ea_W M d h0 rv hE pc lv' st h) : ea_W M d h0 rv hE pc lv st h :=
  ⟨k.1, k.2.1, k.2.2.1, fun p l e s m args below meth c w H locs ls hC hA hK hX h1 h2 h3 hP hS hl hq => k.2.2.2 p l e s m args below meth c w H locs ls hC hA hK hX h1 h2 h3 hP hS (ea_picked hl ks hk) hq⟩
theorem ea_to {pc' : Nat} {lv' : List (Nat × ea_V)} {st' : List ea_V} {h' : ea_H} (k : ea_W M d h0 rv hE pc' lv' st' h') (h1 : pc = pc') (h2 : lv = lv') (h3 : st = st') (h4 : h = h') : ea_W M d h0 rv hE pc lv st h := by subst h1 h2 h3 h4; exact k
theorem ea_iconst {n : Int} {v : Int32} (hd : decode M.2.1 pc = .ok (.iconst n, 1)) (hv : Int32.ofInt n = v) (k : ea_W M d h0 rv hE (pc + 1) lv (vI v :: st) h) : ea_W M d h0 rv hE pc lv st h := ea_go (fun ad ro hC hl kk => lv_iconst hC.1.1 hC.1.2.1 hd hv kk) k
theorem ea_bipush {n : Int} {v : Int32} (hd : decode M.2.1 pc = .ok (.bipush n, 2)) (hv : (Int8.ofInt n).toInt32 = v) (k : ea_W M d h0 rv hE (pc + 2) lv (vI v :: st) h) : ea_W M d h0 rv hE pc lv st h := ea_go (fun ad ro hC hl kk => lv_bipush hC.1.1 hC.1.2.1 hd hv kk) k
theorem ea_sipush {n : Int} {v : Int32} (hd : decode M.2.1 pc = .ok (.sipush n, 3)) (hv : (Int16.ofInt n).toInt32 = v) (k : ea_W M d h0 rv hE (pc + 3) lv (vI v :: st) h) : ea_W M d h0 rv hE pc lv st h := ea_go (fun ad ro hC hl kk => lv_sipush hC.1.1 hC.1.2.1 hd hv kk) k
theorem ea_lconst {n : Fin 2} {v : Int64} (hd : decode M.2.1 pc = .ok (.lconst n, 1)) (hv : Int64.ofNat (n : Nat) = v) (k : ea_W M d h0 rv hE (pc + 1) lv (vJ v :: st) h) : ea_W M d h0 rv hE pc lv st h := ea_go (fun ad ro hC hl kk => lv_lconst hC.1.1 hC.1.2.1 hd hv kk) k
theorem ea_ldc {idx : Nat} {v : Int32} (hd : decode M.2.1 pc = .ok (.ldc idx, 2)) (hw : Cond.constant M.1.cls idx v ∈ ea_tbl) (k : ea_W M d h0 rv hE (pc + 2) lv (vI v :: st) h) : ea_W M d h0 rv hE pc lv st h := ea_go (fun ad ro hC hl kk => lv_ldc hC.1.1 hC.1.2.1 hC.1.2.2.2.1 (hC.1.2.2.2.2 _ hw) hd kk) k
theorem ea_ldcw {idx : Nat} {v : Int32} (hd : decode M.2.1 pc = .ok (.ldc_w idx, 3)) (hw : Cond.constant M.1.cls idx v ∈ ea_tbl) (k : ea_W M d h0 rv hE (pc + 3) lv (vI v :: st) h) : ea_W M d h0 rv hE pc lv st h := ea_go (fun ad ro hC hl kk => lv_ldcw hC.1.1 hC.1.2.1 hC.1.2.2.2.1 (hC.1.2.2.2.2 _ hw) hd kk) k
theorem ea_ldc2 {idx : Nat} {v : Int64} (hd : decode M.2.1 pc = .ok (.ldc2_w idx, 3)) (hw : Cond.constantLong M.1.cls idx v ∈ ea_tbl) (k : ea_W M d h0 rv hE (pc + 3) lv (vJ v :: st) h) : ea_W M d h0 rv hE pc lv st h := ea_go (fun ad ro hC hl kk => lv_ldc2 hC.1.1 hC.1.2.1 hC.1.2.2.2.1 (hC.1.2.2.2.2 _ hw) hd kk) k
theorem ea_null  (hd : decode M.2.1 pc = .ok (.aconst_null, 1)) (k : ea_W M d h0 rv hE (pc + 1) lv (vR none :: st) h) : ea_W M d h0 rv hE pc lv st h := ea_go (fun ad ro hC hl kk => lv_null hC.1.1 hC.1.2.1 hd kk) k
theorem ea_iload_n {q : Fin 4} {i : Nat} {x : Int32} (hd : decode M.2.1 pc = .ok (.iload_n q, 1)) (hi : (q : Nat) = i) (n : Nat) (hk : lv[n]? = some (i, vI x)) (k : ea_W M d h0 rv hE (pc + 1) lv (vI x :: st) h) : ea_W M d h0 rv hE pc lv st h := ea_go (fun ad ro hC hl kk => lv_iload_n hC.1.1 hC.1.2.1 hd hi (ea_lvat hl hk) kk) k
theorem ea_iload {i : Nat} {x : Int32} (hd : decode M.2.1 pc = .ok (.iload i, 2)) (n : Nat) (hk : lv[n]? = some (i, vI x)) (k : ea_W M d h0 rv hE (pc + 2) lv (vI x :: st) h) : ea_W M d h0 rv hE pc lv st h := ea_go (fun ad ro hC hl kk => lv_iload hC.1.1 hC.1.2.1 hd (ea_lvat hl hk) kk) k
theorem ea_lload_n {q : Fin 4} {i : Nat} {x : Int64} (hd : decode M.2.1 pc = .ok (.lload_n q, 1)) (hi : (q : Nat) = i) (n : Nat) (hk : lv[n]? = some (i, vJ x)) (k : ea_W M d h0 rv hE (pc + 1) lv (vJ x :: st) h) : ea_W M d h0 rv hE pc lv st h := ea_go (fun ad ro hC hl kk => lv_lload_n hC.1.1 hC.1.2.1 hd hi (ea_lvat hl hk) kk) k
theorem ea_lload {i : Nat} {x : Int64} (hd : decode M.2.1 pc = .ok (.lload i, 2)) (n : Nat) (hk : lv[n]? = some (i, vJ x)) (k : ea_W M d h0 rv hE (pc + 2) lv (vJ x :: st) h) : ea_W M d h0 rv hE pc lv st h := ea_go (fun ad ro hC hl kk => lv_lload hC.1.1 hC.1.2.1 hd (ea_lvat hl hk) kk) k
theorem ea_aload_n {q : Fin 4} {i : Nat} {r : Option Nat} (hd : decode M.2.1 pc = .ok (.aload_n q, 1)) (hi : (q : Nat) = i) (n : Nat) (hk : lv[n]? = some (i, vR r)) (k : ea_W M d h0 rv hE (pc + 1) lv (vR r :: st) h) : ea_W M d h0 rv hE pc lv st h := by
  cases r with
  | none => exact ea_go (fun ad ro hC hl kk => lv_aload_nN hC.1.1 hC.1.2.1 hd hi (ea_lvat hl hk) kk) k
  | some r => exact ea_go (fun ad ro hC hl kk => lv_aload_n hC.1.1 hC.1.2.1 hd hi (ea_lvat hl hk) kk) k
theorem ea_aload {i : Nat} {r : Option Nat} (hd : decode M.2.1 pc = .ok (.aload i, 2)) (n : Nat) (hk : lv[n]? = some (i, vR r)) (k : ea_W M d h0 rv hE (pc + 2) lv (vR r :: st) h) : ea_W M d h0 rv hE pc lv st h := by
  cases r with
  | none => exact ea_go (fun ad ro hC hl kk => lv_aloadN hC.1.1 hC.1.2.1 hd (ea_lvat hl hk) kk) k
  | some r => exact ea_go (fun ad ro hC hl kk => lv_aload hC.1.1 hC.1.2.1 hd (ea_lvat hl hk) kk) k
theorem ea_aload_nO {q : Fin 4} {i r : Nat} (hd : decode M.2.1 pc = .ok (.aload_n q, 1)) (hi : (q : Nat) = i) (n : Nat) (hk : lv[n]? = some (i, vO r)) (k : ea_W M d h0 rv hE (pc + 1) lv (vO r :: st) h) : ea_W M d h0 rv hE pc lv st h := ea_go (fun ad ro hC hl kk => lv_aload_n hC.1.1 hC.1.2.1 hd hi (ea_lvat hl hk) kk) k
theorem ea_iadd {x y : Int32} (hd : decode M.2.1 pc = .ok (.iadd, 1)) (k : ea_W M d h0 rv hE (pc + 1) lv (vI (x + y) :: st) h) : ea_W M d h0 rv hE pc lv (vI y :: vI x :: st) h := ea_go (fun ad ro hC hl kk => lv_iadd hC.1.1 hC.1.2.1 hd kk) k
theorem ea_isub {x y : Int32} (hd : decode M.2.1 pc = .ok (.isub, 1)) (k : ea_W M d h0 rv hE (pc + 1) lv (vI (x - y) :: st) h) : ea_W M d h0 rv hE pc lv (vI y :: vI x :: st) h := ea_go (fun ad ro hC hl kk => lv_isub hC.1.1 hC.1.2.1 hd kk) k
theorem ea_imul {x y : Int32} (hd : decode M.2.1 pc = .ok (.imul, 1)) (k : ea_W M d h0 rv hE (pc + 1) lv (vI (x * y) :: st) h) : ea_W M d h0 rv hE pc lv (vI y :: vI x :: st) h := ea_go (fun ad ro hC hl kk => lv_imul hC.1.1 hC.1.2.1 hd kk) k
theorem ea_iand {x y : Int32} (hd : decode M.2.1 pc = .ok (.iand, 1)) (k : ea_W M d h0 rv hE (pc + 1) lv (vI (x &&& y) :: st) h) : ea_W M d h0 rv hE pc lv (vI y :: vI x :: st) h := ea_go (fun ad ro hC hl kk => lv_iand hC.1.1 hC.1.2.1 hd kk) k
theorem ea_ior {x y : Int32} (hd : decode M.2.1 pc = .ok (.ior, 1)) (k : ea_W M d h0 rv hE (pc + 1) lv (vI (x ||| y) :: st) h) : ea_W M d h0 rv hE pc lv (vI y :: vI x :: st) h := ea_go (fun ad ro hC hl kk => lv_ior hC.1.1 hC.1.2.1 hd kk) k
theorem ea_ixor {x y : Int32} (hd : decode M.2.1 pc = .ok (.ixor, 1)) (k : ea_W M d h0 rv hE (pc + 1) lv (vI (x ^^^ y) :: st) h) : ea_W M d h0 rv hE pc lv (vI y :: vI x :: st) h := ea_go (fun ad ro hC hl kk => lv_ixor hC.1.1 hC.1.2.1 hd kk) k
theorem ea_ishl {x y : Int32} (hd : decode M.2.1 pc = .ok (.ishl, 1)) (k : ea_W M d h0 rv hE (pc + 1) lv (vI (x <<< (y &&& 31)) :: st) h) : ea_W M d h0 rv hE pc lv (vI y :: vI x :: st) h := ea_go (fun ad ro hC hl kk => lv_ishl hC.1.1 hC.1.2.1 hd kk) k
theorem ea_ishr {x y : Int32} (hd : decode M.2.1 pc = .ok (.ishr, 1)) (k : ea_W M d h0 rv hE (pc + 1) lv (vI (x >>> (y &&& 31)) :: st) h) : ea_W M d h0 rv hE pc lv (vI y :: vI x :: st) h := ea_go (fun ad ro hC hl kk => lv_ishr hC.1.1 hC.1.2.1 hd kk) k
theorem ea_idiv {x y : Int32} (hd : decode M.2.1 pc = .ok (.idiv, 1)) (hne : ¬ y = 0) (k : ea_W M d h0 rv hE (pc + 1) lv (vI (x / y) :: st) h) : ea_W M d h0 rv hE pc lv (vI y :: vI x :: st) h := ea_go (fun ad ro hC hl kk => lv_idiv hC.1.1 hC.1.2.1 hd hne kk) k
theorem ea_irem {x y : Int32} (hd : decode M.2.1 pc = .ok (.irem, 1)) (hne : ¬ y = 0) (k : ea_W M d h0 rv hE (pc + 1) lv (vI (x - x / y * y) :: st) h) : ea_W M d h0 rv hE pc lv (vI y :: vI x :: st) h := ea_go (fun ad ro hC hl kk => lv_irem hC.1.1 hC.1.2.1 hd hne kk) k
theorem ea_ineg {x : Int32} (hd : decode M.2.1 pc = .ok (.ineg, 1)) (k : ea_W M d h0 rv hE (pc + 1) lv (vI (-x) :: st) h) : ea_W M d h0 rv hE pc lv (vI x :: st) h := ea_go (fun ad ro hC hl kk => lv_ineg hC.1.1 hC.1.2.1 hd kk) k
theorem ea_ladd {x y : Int64} (hd : decode M.2.1 pc = .ok (.ladd, 1)) (k : ea_W M d h0 rv hE (pc + 1) lv (vJ (x + y) :: st) h) : ea_W M d h0 rv hE pc lv (vJ y :: vJ x :: st) h := ea_go (fun ad ro hC hl kk => lv_ladd hC.1.1 hC.1.2.1 hd kk) k
theorem ea_lsub {x y : Int64} (hd : decode M.2.1 pc = .ok (.lsub, 1)) (k : ea_W M d h0 rv hE (pc + 1) lv (vJ (x - y) :: st) h) : ea_W M d h0 rv hE pc lv (vJ y :: vJ x :: st) h := ea_go (fun ad ro hC hl kk => lv_lsub hC.1.1 hC.1.2.1 hd kk) k
theorem ea_lmul {x y : Int64} (hd : decode M.2.1 pc = .ok (.lmul, 1)) (k : ea_W M d h0 rv hE (pc + 1) lv (vJ (x * y) :: st) h) : ea_W M d h0 rv hE pc lv (vJ y :: vJ x :: st) h := ea_go (fun ad ro hC hl kk => lv_lmul hC.1.1 hC.1.2.1 hd kk) k
theorem ea_land {x y : Int64} (hd : decode M.2.1 pc = .ok (.land, 1)) (k : ea_W M d h0 rv hE (pc + 1) lv (vJ (x &&& y) :: st) h) : ea_W M d h0 rv hE pc lv (vJ y :: vJ x :: st) h := ea_go (fun ad ro hC hl kk => lv_land hC.1.1 hC.1.2.1 hd kk) k
theorem ea_lor {x y : Int64} (hd : decode M.2.1 pc = .ok (.lor, 1)) (k : ea_W M d h0 rv hE (pc + 1) lv (vJ (x ||| y) :: st) h) : ea_W M d h0 rv hE pc lv (vJ y :: vJ x :: st) h := ea_go (fun ad ro hC hl kk => lv_lor hC.1.1 hC.1.2.1 hd kk) k
theorem ea_lxor {x y : Int64} (hd : decode M.2.1 pc = .ok (.lxor, 1)) (k : ea_W M d h0 rv hE (pc + 1) lv (vJ (x ^^^ y) :: st) h) : ea_W M d h0 rv hE pc lv (vJ y :: vJ x :: st) h := ea_go (fun ad ro hC hl kk => lv_lxor hC.1.1 hC.1.2.1 hd kk) k
theorem ea_ldiv {x y : Int64} (hd : decode M.2.1 pc = .ok (.ldiv, 1)) (hne : ¬ y = 0) (k : ea_W M d h0 rv hE (pc + 1) lv (vJ (x / y) :: st) h) : ea_W M d h0 rv hE pc lv (vJ y :: vJ x :: st) h := ea_go (fun ad ro hC hl kk => lv_ldiv hC.1.1 hC.1.2.1 hd hne kk) k
theorem ea_lrem {x y : Int64} (hd : decode M.2.1 pc = .ok (.lrem, 1)) (hne : ¬ y = 0) (k : ea_W M d h0 rv hE (pc + 1) lv (vJ (x - x / y * y) :: st) h) : ea_W M d h0 rv hE pc lv (vJ y :: vJ x :: st) h := ea_go (fun ad ro hC hl kk => lv_lrem hC.1.1 hC.1.2.1 hd hne kk) k
theorem ea_i2s {x : Int32} (hd : decode M.2.1 pc = .ok (.i2s, 1)) (k : ea_W M d h0 rv hE (pc + 1) lv (vI x.toInt16.toInt32 :: st) h) : ea_W M d h0 rv hE pc lv (vI x :: st) h := ea_go (fun ad ro hC hl kk => lv_i2s hC.1.1 hC.1.2.1 hd rfl kk) k
theorem ea_i2l {x : Int32} (hd : decode M.2.1 pc = .ok (.i2l, 1)) (k : ea_W M d h0 rv hE (pc + 1) lv (vJ x.toInt64 :: st) h) : ea_W M d h0 rv hE pc lv (vI x :: st) h := ea_go (fun ad ro hC hl kk => lv_i2l hC.1.1 hC.1.2.1 hd rfl kk) k
theorem ea_l2i {x : Int64} (hd : decode M.2.1 pc = .ok (.l2i, 1)) (k : ea_W M d h0 rv hE (pc + 1) lv (vI x.toInt32 :: st) h) : ea_W M d h0 rv hE pc lv (vJ x :: st) h := ea_go (fun ad ro hC hl kk => lv_l2i hC.1.1 hC.1.2.1 hd rfl kk) k
theorem ea_lshl {x : Int64} {y : Int32} (hd : decode M.2.1 pc = .ok (.lshl, 1)) (k : ea_W M d h0 rv hE (pc + 1) lv (vJ (x <<< (y.toInt64 &&& 63)) :: st) h) : ea_W M d h0 rv hE pc lv (vI y :: vJ x :: st) h := ea_go (fun ad ro hC hl kk => lv_lshl hC.1.1 hC.1.2.1 hd rfl kk) k
theorem ea_lshr {x : Int64} {y : Int32} (hd : decode M.2.1 pc = .ok (.lshr, 1)) (k : ea_W M d h0 rv hE (pc + 1) lv (vJ (x >>> (y.toInt64 &&& 63)) :: st) h) : ea_W M d h0 rv hE pc lv (vI y :: vJ x :: st) h := ea_go (fun ad ro hC hl kk => lv_lshr hC.1.1 hC.1.2.1 hd rfl kk) k
theorem ea_lcmp {x y : Int64} (hd : decode M.2.1 pc = .ok (.lcmp, 1)) (k : ea_W M d h0 rv hE (pc + 1) lv (vI (lg_cmp x y) :: st) h) : ea_W M d h0 rv hE pc lv (vJ y :: vJ x :: st) h := ea_go (fun ad ro hC hl kk => W.lcmp hC.1.1 hC.1.2.1 hd kk) k
theorem ea_cat1 {ad ro : Nat → Nat} {v : ea_V} (hv : ea_wide v = false) : (ea_v ad ro v).category = 1 := by
  rcases v with x | x | (_ | r) | i
  · rfl
  · cases hv
  · rfl
  · rfl
  · rfl
theorem ea_cat2 {ad ro : Nat → Nat} {v : ea_V} (hv : ea_wide v = true) : (ea_v ad ro v).category = 2 := by
  rcases v with x | x | (_ | r) | i
  · cases hv
  · rfl
  · cases hv
  · cases hv
  · cases hv
theorem ea_dup {v : ea_V} (hd : decode M.2.1 pc = .ok (.dup, 1)) (hv : ea_wide v = false) (k : ea_W M d h0 rv hE (pc + 1) lv (v :: v :: st) h) : ea_W M d h0 rv hE pc lv (v :: st) h := ea_go (fun ad ro hC hl kk => lv_dup hC.1.1 hC.1.2.1 hd (ea_cat1 hv) kk) k
theorem ea_pop {v : ea_V} (hd : decode M.2.1 pc = .ok (.pop, 1)) (hv : ea_wide v = false) (k : ea_W M d h0 rv hE (pc + 1) lv st h) : ea_W M d h0 rv hE pc lv (v :: st) h := ea_go (fun ad ro hC hl kk => lv_pop hC.1.1 hC.1.2.1 hd (ea_cat1 hv) kk) k
theorem ea_dup_x1 {v u : ea_V} (hd : decode M.2.1 pc = .ok (.dup_x1, 1)) (hv : ea_wide v = false) (hu : ea_wide u = false) (k : ea_W M d h0 rv hE (pc + 1) lv (v :: u :: v :: st) h) : ea_W M d h0 rv hE pc lv (v :: u :: st) h := ea_go (fun ad ro hC hl kk => lv_dup_x1 hC.1.1 hC.1.2.1 hd (ea_cat1 hv) (ea_cat1 hu) kk) k
theorem ea_dup2 {v u : ea_V} (hd : decode M.2.1 pc = .ok (.dup2, 1)) (hv : ea_wide v = false) (hu : ea_wide u = false) (k : ea_W M d h0 rv hE (pc + 1) lv (v :: u :: v :: u :: st) h) : ea_W M d h0 rv hE pc lv (v :: u :: st) h := ea_go (fun ad ro hC hl kk => lv_dup2_11 hC.1.1 hC.1.2.1 hd (ea_cat1 hv) (ea_cat1 hu) kk) k
theorem ea_dup2w {v : ea_V} (hd : decode M.2.1 pc = .ok (.dup2, 1)) (hv : ea_wide v = true) (k : ea_W M d h0 rv hE (pc + 1) lv (v :: v :: st) h) : ea_W M d h0 rv hE pc lv (v :: st) h := ea_go (fun ad ro hC hl kk => lv_dup2_2 hC.1.1 hC.1.2.1 hd (ea_cat2 hv) kk) k
theorem ea_goto {off : Int} {tgt : Nat} (hd : decode M.2.1 pc = .ok (.goto off, 3)) (ht : (pc : Int) + off = (tgt : Int)) (k : ea_W M d h0 rv hE tgt lv st h) : ea_W M d h0 rv hE pc lv st h := ea_go (fun ad ro hC hl kk => lv_goto hC.1.1 hC.1.2.1 hd ht kk) k
theorem ea_if_eq {x : Int32} {off : Int} {tgt : Nat} (hd : decode M.2.1 pc = .ok (.ifCond .eq off, 3)) (ht : (pc : Int) + off = (tgt : Int)) (kt : x = 0 → ea_W M d h0 rv hE tgt lv st h) (kf : ¬ (x = 0) → ea_W M d h0 rv hE (pc + 3) lv st h) : ea_W M d h0 rv hE pc lv (vI x :: st) h := by
  by_cases hP : x = 0
  · exact ea_go (fun ad ro hC hl kk => lv_if_eq hC.1.1 hC.1.2.1 hd ht (fun _ => kk) (fun q => absurd hP q)) (kt hP)
  · exact ea_go (fun ad ro hC hl kk => lv_if_eq hC.1.1 hC.1.2.1 hd ht (fun q => absurd q hP) (fun _ => kk)) (kf hP)
theorem ea_if_lt {x : Int32} {off : Int} {tgt : Nat} (hd : decode M.2.1 pc = .ok (.ifCond .lt off, 3)) (ht : (pc : Int) + off = (tgt : Int)) (kt : x < 0 → ea_W M d h0 rv hE tgt lv st h) (kf : ¬ (x < 0) → ea_W M d h0 rv hE (pc + 3) lv st h) : ea_W M d h0 rv hE pc lv (vI x :: st) h := by
  by_cases hP : x < 0
  · exact ea_go (fun ad ro hC hl kk => lv_if_lt hC.1.1 hC.1.2.1 hd ht (fun _ => kk) (fun q => absurd hP q)) (kt hP)
  · exact ea_go (fun ad ro hC hl kk => lv_if_lt hC.1.1 hC.1.2.1 hd ht (fun q => absurd q hP) (fun _ => kk)) (kf hP)
theorem ea_if_ge {x : Int32} {off : Int} {tgt : Nat} (hd : decode M.2.1 pc = .ok (.ifCond .ge off, 3)) (ht : (pc : Int) + off = (tgt : Int)) (kt : 0 ≤ x → ea_W M d h0 rv hE tgt lv st h) (kf : ¬ (0 ≤ x) → ea_W M d h0 rv hE (pc + 3) lv st h) : ea_W M d h0 rv hE pc lv (vI x :: st) h := by
  by_cases hP : 0 ≤ x
  · exact ea_go (fun ad ro hC hl kk => lv_if_ge hC.1.1 hC.1.2.1 hd ht (fun _ => kk) (fun q => absurd hP q)) (kt hP)
  · exact ea_go (fun ad ro hC hl kk => lv_if_ge hC.1.1 hC.1.2.1 hd ht (fun q => absurd q hP) (fun _ => kk)) (kf hP)
theorem ea_if_gt {x : Int32} {off : Int} {tgt : Nat} (hd : decode M.2.1 pc = .ok (.ifCond .gt off, 3)) (ht : (pc : Int) + off = (tgt : Int)) (kt : 0 < x → ea_W M d h0 rv hE tgt lv st h) (kf : ¬ (0 < x) → ea_W M d h0 rv hE (pc + 3) lv st h) : ea_W M d h0 rv hE pc lv (vI x :: st) h := by
  by_cases hP : 0 < x
  · exact ea_go (fun ad ro hC hl kk => lv_if_gt hC.1.1 hC.1.2.1 hd ht (fun _ => kk) (fun q => absurd hP q)) (kt hP)
  · exact ea_go (fun ad ro hC hl kk => lv_if_gt hC.1.1 hC.1.2.1 hd ht (fun q => absurd q hP) (fun _ => kk)) (kf hP)
theorem ea_if_le {x : Int32} {off : Int} {tgt : Nat} (hd : decode M.2.1 pc = .ok (.ifCond .le off, 3)) (ht : (pc : Int) + off = (tgt : Int)) (kt : x ≤ 0 → ea_W M d h0 rv hE tgt lv st h) (kf : ¬ (x ≤ 0) → ea_W M d h0 rv hE (pc + 3) lv st h) : ea_W M d h0 rv hE pc lv (vI x :: st) h := by
  by_cases hP : x ≤ 0
  · exact ea_go (fun ad ro hC hl kk => lv_if_le hC.1.1 hC.1.2.1 hd ht (fun _ => kk) (fun q => absurd hP q)) (kt hP)
  · exact ea_go (fun ad ro hC hl kk => lv_if_le hC.1.1 hC.1.2.1 hd ht (fun q => absurd q hP) (fun _ => kk)) (kf hP)
theorem ea_icmp_eq {x y : Int32} {off : Int} {tgt : Nat} (hd : decode M.2.1 pc = .ok (.if_icmp .eq off, 3)) (ht : (pc : Int) + off = (tgt : Int)) (kt : x = y → ea_W M d h0 rv hE tgt lv st h) (kf : ¬ (x = y) → ea_W M d h0 rv hE (pc + 3) lv st h) : ea_W M d h0 rv hE pc lv (vI y :: vI x :: st) h := by
  by_cases hP : x = y
  · exact ea_go (fun ad ro hC hl kk => lv_icmp_eq hC.1.1 hC.1.2.1 hd ht (fun _ => kk) (fun q => absurd hP q)) (kt hP)
  · exact ea_go (fun ad ro hC hl kk => lv_icmp_eq hC.1.1 hC.1.2.1 hd ht (fun q => absurd q hP) (fun _ => kk)) (kf hP)
theorem ea_icmp_lt {x y : Int32} {off : Int} {tgt : Nat} (hd : decode M.2.1 pc = .ok (.if_icmp .lt off, 3)) (ht : (pc : Int) + off = (tgt : Int)) (kt : x < y → ea_W M d h0 rv hE tgt lv st h) (kf : ¬ (x < y) → ea_W M d h0 rv hE (pc + 3) lv st h) : ea_W M d h0 rv hE pc lv (vI y :: vI x :: st) h := by
  by_cases hP : x < y
  · exact ea_go (fun ad ro hC hl kk => lv_icmp_lt hC.1.1 hC.1.2.1 hd ht (fun _ => kk) (fun q => absurd hP q)) (kt hP)
  · exact ea_go (fun ad ro hC hl kk => lv_icmp_lt hC.1.1 hC.1.2.1 hd ht (fun q => absurd q hP) (fun _ => kk)) (kf hP)
theorem ea_icmp_ge {x y : Int32} {off : Int} {tgt : Nat} (hd : decode M.2.1 pc = .ok (.if_icmp .ge off, 3)) (ht : (pc : Int) + off = (tgt : Int)) (kt : y ≤ x → ea_W M d h0 rv hE tgt lv st h) (kf : ¬ (y ≤ x) → ea_W M d h0 rv hE (pc + 3) lv st h) : ea_W M d h0 rv hE pc lv (vI y :: vI x :: st) h := by
  by_cases hP : y ≤ x
  · exact ea_go (fun ad ro hC hl kk => lv_icmp_ge hC.1.1 hC.1.2.1 hd ht (fun _ => kk) (fun q => absurd hP q)) (kt hP)
  · exact ea_go (fun ad ro hC hl kk => lv_icmp_ge hC.1.1 hC.1.2.1 hd ht (fun q => absurd q hP) (fun _ => kk)) (kf hP)
theorem ea_icmp_gt {x y : Int32} {off : Int} {tgt : Nat} (hd : decode M.2.1 pc = .ok (.if_icmp .gt off, 3)) (ht : (pc : Int) + off = (tgt : Int)) (kt : y < x → ea_W M d h0 rv hE tgt lv st h) (kf : ¬ (y < x) → ea_W M d h0 rv hE (pc + 3) lv st h) : ea_W M d h0 rv hE pc lv (vI y :: vI x :: st) h := by
  by_cases hP : y < x
  · exact ea_go (fun ad ro hC hl kk => lv_icmp_gt hC.1.1 hC.1.2.1 hd ht (fun _ => kk) (fun q => absurd hP q)) (kt hP)
  · exact ea_go (fun ad ro hC hl kk => lv_icmp_gt hC.1.1 hC.1.2.1 hd ht (fun q => absurd q hP) (fun _ => kk)) (kf hP)
theorem ea_icmp_le {x y : Int32} {off : Int} {tgt : Nat} (hd : decode M.2.1 pc = .ok (.if_icmp .le off, 3)) (ht : (pc : Int) + off = (tgt : Int)) (kt : x ≤ y → ea_W M d h0 rv hE tgt lv st h) (kf : ¬ (x ≤ y) → ea_W M d h0 rv hE (pc + 3) lv st h) : ea_W M d h0 rv hE pc lv (vI y :: vI x :: st) h := by
  by_cases hP : x ≤ y
  · exact ea_go (fun ad ro hC hl kk => lv_icmp_le hC.1.1 hC.1.2.1 hd ht (fun _ => kk) (fun q => absurd hP q)) (kt hP)
  · exact ea_go (fun ad ro hC hl kk => lv_icmp_le hC.1.1 hC.1.2.1 hd ht (fun q => absurd q hP) (fun _ => kk)) (kf hP)
theorem ea_if_ne {x : Int32} {off : Int} {tgt : Nat} (hd : decode M.2.1 pc = .ok (.ifCond .ne off, 3)) (ht : (pc : Int) + off = (tgt : Int)) (kt : ¬ x = 0 → ea_W M d h0 rv hE tgt lv st h) (kf : x = 0 → ea_W M d h0 rv hE (pc + 3) lv st h) : ea_W M d h0 rv hE pc lv (vI x :: st) h := by
  by_cases hP : x = 0
  · exact ea_go (fun ad ro hC hl kk => lv_if_ne hC.1.1 hC.1.2.1 hd ht (fun q => absurd hP q) (fun _ => kk)) (kf hP)
  · exact ea_go (fun ad ro hC hl kk => lv_if_ne hC.1.1 hC.1.2.1 hd ht (fun _ => kk) (fun q => absurd q hP)) (kt hP)
theorem ea_icmp_ne {x y : Int32} {off : Int} {tgt : Nat} (hd : decode M.2.1 pc = .ok (.if_icmp .ne off, 3)) (ht : (pc : Int) + off = (tgt : Int)) (kt : ¬ x = y → ea_W M d h0 rv hE tgt lv st h) (kf : x = y → ea_W M d h0 rv hE (pc + 3) lv st h) : ea_W M d h0 rv hE pc lv (vI y :: vI x :: st) h := by
  by_cases hP : x = y
  · exact ea_go (fun ad ro hC hl kk => lv_icmp_ne hC.1.1 hC.1.2.1 hd ht (fun q => absurd hP q) (fun _ => kk)) (kf hP)
  · exact ea_go (fun ad ro hC hl kk => lv_icmp_ne hC.1.1 hC.1.2.1 hd ht (fun _ => kk) (fun q => absurd q hP)) (kt hP)
theorem ea_ifnull {r : Option Nat} {off : Int} {tgt : Nat} (hd : decode M.2.1 pc = .ok (.ifnull off, 3)) (ht : (pc : Int) + off = (tgt : Int)) (kt : r = none → ea_W M d h0 rv hE tgt lv st h) (kf : ∀ i, r = some i → ea_W M d h0 rv hE (pc + 3) lv st h) : ea_W M d h0 rv hE pc lv (vR r :: st) h := by
  cases r with
  | none => exact ea_go (fun ad ro hC hl kk => lv_ifnullN hC.1.1 hC.1.2.1 hd ht kk) (kt rfl)
  | some i => exact ea_go (fun ad ro hC hl kk => lv_ifnull hC.1.1 hC.1.2.1 hd kk) (kf i rfl)
theorem ea_ifnonnull {r : Option Nat} {off : Int} {tgt : Nat} (hd : decode M.2.1 pc = .ok (.ifnonnull off, 3)) (ht : (pc : Int) + off = (tgt : Int)) (kt : ∀ i, r = some i → ea_W M d h0 rv hE tgt lv st h) (kf : r = none → ea_W M d h0 rv hE (pc + 3) lv st h) : ea_W M d h0 rv hE pc lv (vR r :: st) h := by
  cases r with
  | none => exact ea_go (fun ad ro hC hl kk => lv_ifnonnullN hC.1.1 hC.1.2.1 hd kk) (kf rfl)
  | some i => exact ea_go (fun ad ro hC hl kk => lv_ifnonnull hC.1.1 hC.1.2.1 hd ht kk) (kt i rfl)
theorem ea_istore_n {q : Fin 4} {i : Nat} {x : Int32} {lv' : List (Nat × ea_V)} (hd : decode M.2.1 pc = .ok (.istore_n q, 1)) (hi : (q : Nat) = i) (hn : i < M.2.2.1) (ks : List Nat) (hk : ea_pick (ea_put lv i (vI x)) ks = lv') (k : ea_W M d h0 rv hE (pc + 1) lv' st h) : ea_W M d h0 rv hE pc lv (vI x :: st) h := ea_gol (fun ad ro hC hl kk => lv_istore_n hC.1.1 hC.1.2.1 hd hi hl hn (ea_putlv ad ro i (vI x)).symm fun ls' hl' => kk ls' (ea_picked hl' ks hk)) k
theorem ea_istore {i : Nat} {x : Int32} {lv' : List (Nat × ea_V)} (hd : decode M.2.1 pc = .ok (.istore i, 2)) (hn : i < M.2.2.1) (ks : List Nat) (hk : ea_pick (ea_put lv i (vI x)) ks = lv') (k : ea_W M d h0 rv hE (pc + 2) lv' st h) : ea_W M d h0 rv hE pc lv (vI x :: st) h := ea_gol (fun ad ro hC hl kk => lv_istore hC.1.1 hC.1.2.1 hd hl hn (ea_putlv ad ro i (vI x)).symm fun ls' hl' => kk ls' (ea_picked hl' ks hk)) k
theorem ea_lstore_n {q : Fin 4} {i : Nat} {x : Int64} {lv' : List (Nat × ea_V)} (hd : decode M.2.1 pc = .ok (.lstore_n q, 1)) (hi : (q : Nat) = i) (hn : i + 1 < M.2.2.1) (ks : List Nat) (hk : ea_pick (ea_put2 lv i (vJ x)) ks = lv') (k : ea_W M d h0 rv hE (pc + 1) lv' st h) : ea_W M d h0 rv hE pc lv (vJ x :: st) h := ea_gol (fun ad ro hC hl kk => lv_lstore_n hC.1.1 hC.1.2.1 hd hi hl hn (ea_putlv2 ad ro i (vJ x)).symm fun ls' hl' => kk ls' (ea_picked hl' ks hk)) k
theorem ea_lstore {i : Nat} {x : Int64} {lv' : List (Nat × ea_V)} (hd : decode M.2.1 pc = .ok (.lstore i, 2)) (hn : i + 1 < M.2.2.1) (ks : List Nat) (hk : ea_pick (ea_put2 lv i (vJ x)) ks = lv') (k : ea_W M d h0 rv hE (pc + 2) lv' st h) : ea_W M d h0 rv hE pc lv (vJ x :: st) h := ea_gol (fun ad ro hC hl kk => lv_lstore hC.1.1 hC.1.2.1 hd hl hn (ea_putlv2 ad ro i (vJ x)).symm fun ls' hl' => kk ls' (ea_picked hl' ks hk)) k
theorem ea_astore_n {q : Fin 4} {i : Nat} {r : Option Nat} {lv' : List (Nat × ea_V)} (hd : decode M.2.1 pc = .ok (.astore_n q, 1)) (hi : (q : Nat) = i) (hn : i < M.2.2.1) (ks : List Nat) (hk : ea_pick (ea_put lv i (vR r)) ks = lv') (k : ea_W M d h0 rv hE (pc + 1) lv' st h) : ea_W M d h0 rv hE pc lv (vR r :: st) h := by
  cases r with
  | none => exact ea_gol (fun ad ro hC hl kk => lv_astore_nN hC.1.1 hC.1.2.1 hd hi hl hn (ea_putlv ad ro i (vR none)).symm fun ls' hl' => kk ls' (ea_picked hl' ks hk)) k
  | some r => exact ea_gol (fun ad ro hC hl kk => lv_astore_n hC.1.1 hC.1.2.1 hd hi hl hn (ea_putlv ad ro i (vR (some r))).symm fun ls' hl' => kk ls' (ea_picked hl' ks hk)) k
theorem ea_astore {i : Nat} {r : Option Nat} {lv' : List (Nat × ea_V)} (hd : decode M.2.1 pc = .ok (.astore i, 2)) (hn : i < M.2.2.1) (ks : List Nat) (hk : ea_pick (ea_put lv i (vR r)) ks = lv') (k : ea_W M d h0 rv hE (pc + 2) lv' st h) : ea_W M d h0 rv hE pc lv (vR r :: st) h := by
  cases r with
  | none => exact ea_gol (fun ad ro hC hl kk => lv_astoreN hC.1.1 hC.1.2.1 hd hl hn (ea_putlv ad ro i (vR none)).symm fun ls' hl' => kk ls' (ea_picked hl' ks hk)) k
  | some r => exact ea_gol (fun ad ro hC hl kk => lv_astore hC.1.1 hC.1.2.1 hd hl hn (ea_putlv ad ro i (vR (some r))).symm fun ls' hl' => kk ls' (ea_picked hl' ks hk)) k
theorem ea_iinc {i : Nat} {n : Int} {x v : Int32} {lv' : List (Nat × ea_V)} (hd : decode M.2.1 pc = .ok (.iinc i n, 3)) (j : Nat) (hj : lv[j]? = some (i, vI x)) (hv : Int32.ofInt n = v) (hn : i < M.2.2.1) (ks : List Nat) (hk : ea_pick (ea_put lv i (vI (x + v))) ks = lv') (k : ea_W M d h0 rv hE (pc + 3) lv' st h) : ea_W M d h0 rv hE pc lv st h := ea_gol (fun ad ro hC hl kk => lv_iinc hC.1.1 hC.1.2.1 hd hl (k := j) (by rw [List.getElem?_map, hj]; rfl) rfl hn (by rw [ea_putlv, ← hv]; rfl) fun ls' hl' => kk ls' (ea_picked hl' ks hk)) k
theorem ea_iincW {i : Nat} {n : Int} {x v : Int32} {lv' : List (Nat × ea_V)} (hd : decode M.2.1 pc = .ok (.iinc i n, 6)) (j : Nat) (hj : lv[j]? = some (i, vI x)) (hv : Int32.ofInt n = v) (hn : i < M.2.2.1) (ks : List Nat) (hk : ea_pick (ea_put lv i (vI (x + v))) ks = lv') (k : ea_W M d h0 rv hE (pc + 6) lv' st h) : ea_W M d h0 rv hE pc lv st h := ea_gol (fun ad ro hC hl kk => lv_iincW hC.1.1 hC.1.2.1 hd hl (k := j) (by rw [List.getElem?_map, hj]; rfl) rfl hn (by rw [ea_putlv, ← hv]; rfl) fun ls' hl' => kk ls' (ea_picked hl' ks hk)) k
end EA
