/-! the engine, 17: System.arraycopy over ints and booleans; Math; ends -/
def ea_wa (h : ea_H) (a : Nat) (f : Nat → Int32) : ea_H := (h.1, h.2.1, h.2.2.1, ea_u1 (ea_i h) a f, h.2.2.2.2)
theorem ea_e_wa {κ : Nat → ClassId} {ad : Nat → Nat} {h : ea_H} {a : Nat} {f : Nat → Int32} (b : Nat) (hb : b ≠ a) : ea_e κ ad (ea_wa h a f) b = ea_e κ ad h b := by
  have h1 : ea_i (ea_wa h a f) b = ea_i h b := by show ea_u1 (ea_i h) a f b = _; simp only [ea_u1, if_neg hb]
  unfold ea_e ea_ar
  rw [h1, show ea_c (ea_wa h a f) = ea_c h from rfl, show ea_l (ea_wa h a f) = ea_l h from rfl, show ea_j (ea_wa h a f) = ea_j h from rfl, show ea_r (ea_wa h a f) = ea_r h from rfl]
  have h2 : ea_fv ad (ea_wa h a f) (ea_c h b) b = ea_fv ad h (ea_c h b) b := by
    funext j; unfold ea_fv; rw [h1]; rfl
  rw [h2]
theorem ea_natw : nativeFrameWords "java/lang/System" "arraycopy" 5 + 11 ≤ 56 := by decide +kernel
theorem ea_same_size {p : Program} {l : Launch} {e : Env} {R : Room} {s : State} {m : MethodId} {args : Array Value} {below : List Frame} {meth : Method} {c : Code} {T : State} {locs : List Loc} {cells slots : Nat} (X : Stand p l e R s m args below meth c T locs cells slots) : T.heap.size ≤ s.heap.size + cells := X.same.2.2.1
section ECP
variable {M : ea_M} {d : Nat} {h0 hE h : ea_H} {rv : Option ea_V} {pc : Nat} {lv : List (Nat × ea_V)} {st : List ea_V}
theorem ea_copyX {a0 a t idx : Nat} {sp dp n : Int32} (t0 : Nat) {ty : FieldType} (ht0 : ∀ κ, (ea_tys κ)[t0]? = some (κ t, ty)) (ht : t = 20 ∨ t = 21) (hprim : refKind ty = false) (hd : decode M.2.1 pc = .ok (.invokestatic idx, 3)) (hlk : Cond.methodLink M.1.cls idx arraycopyName ∈ ea_tbl) (hnat : Cond.native arraycopyName ∈ ea_tbl) (hstt : Cond.static arraycopyName ∈ ea_tbl) (hini : Cond.initialized "java/lang/System" ∈ ea_tbl)
    (hfa : a0 < ea_n h ∧ ea_c h a0 = t) (hfb : a < ea_n h ∧ ea_c h a = t) (q1 : ¬ sp < 0) (q2 : ¬ dp < 0) (q3 : ¬ n < 0) (q4 : sp.toNatClampNeg + n.toNatClampNeg ≤ ea_l h a0) (q5 : dp.toNatClampNeg + n.toNatClampNeg ≤ ea_l h a) (q6 : ∀ i, i < n.toNatClampNeg → fits ty (.int (ea_i h a0 (sp.toNatClampNeg + i))) = true) (hdd : 1 ≤ d) (hcat : ea_cats st ≤ 8)
    (kk : ea_W M d h0 rv hE (pc + 3) lv st (ea_wa h a (va_cpy (ea_i h a0) (ea_i h a) sp.toNatClampNeg dp.toNatClampNeg n.toNatClampNeg))) : ea_W M d h0 rv hE pc lv (vI n :: vI dp :: vR (some a) :: vI sp :: vR (some a0) :: st) h := by
  refine ⟨kk.1, kk.2.1, kk.2.2.1, fun p l e s m args below meth c w H locs ls hC hA hKK hX h1 h2 h3 hP hS hl hq => ?_⟩
  have hK := hKK.1
  have hr : ∀ b, b < ea_n h ∧ ea_c h b = t → (ea_ws w.2.1 w.2.2.1 h)[b]? = some (w.2.2.1 b, .inl (w.2.1 t, ea_l h b, .inl (ea_i h b))) := by
    intro b hb
    rw [ea_at hb.1, ea_e_arr hb.2 (by omega)]
    unfold ea_ar
    rw [if_pos (by omega)]
  have hDD := hA.D (κ := w.2.1) (h := h) h1 h3
  have hts := hC.1.2.2.2.2
  have hsum : ((ea_st w.2.2.1 w.2.2.2 st).map fun v => v.category).sum ≤ 8 := by rw [ea_cats_eq]; exact hcat
  refine va_copyi hC.1.1 hC.1.2.1 (by rw [hC.1.2.2.1]; exact hl.1.symm) hC.1.2.2.2.1 (hts _ hlk) (hts _ hnat) (hts _ hstt) (hts _ hini) hK hP hDD hS a0 a t0 t0 (hr a0 hfa) (hr a hfb) (ht0 _) (ht0 _) hprim q1 q2 q3 q4 q5 q6 hdd (Nat.le_trans (Nat.add_le_add_right hsum _) (by have := ea_natw; show 8 + (nativeFrameWords "java/lang/System" "arraycopy" 5 + 11) ≤ 64 * d; omega)) hd fun H1 locs1 hP1 hD1 hS1 => ?_
  intro T hT X
  have hz := ea_same_size X
  rw [hT] at hz
  have hset : (ea_ws w.2.1 w.2.2.1 h).set a (w.2.2.1 a, .inl (w.2.1 t, ea_l h a, .inl (va_cpy (ea_i h a0) (ea_i h a) sp.toNatClampNeg dp.toNatClampNeg n.toNatClampNeg))) = ea_ws w.2.1 w.2.2.1 (ea_wa h a (va_cpy (ea_i h a0) (ea_i h a) sp.toNatClampNeg dp.toNatClampNeg n.toNatClampNeg)) := by
    rw [← ea_ws_set (h' := ea_wa h a (va_cpy (ea_i h a0) (ea_i h a) sp.toNatClampNeg dp.toNatClampNeg n.toNatClampNeg)) (h := h) (a := a) rfl (fun b hb => ea_e_wa b hb)]
    congr 2
    rw [ea_e_arr (h := ea_wa h a (va_cpy (ea_i h a0) (ea_i h a) sp.toNatClampNeg dp.toNatClampNeg n.toNatClampNeg)) (show ea_c h a = t from hfb.2) (by omega)]
    unfold ea_ar
    rw [if_pos (show t ≤ 21 by omega)]
    simp only [ea_i, ea_wa, ea_l, ea_u1, if_true]
  rw [hset] at hP1
  have hlow : H.size ≤ H1.size := by
    by_cases hn : ea_n h = ea_n h0
    · have := hS1.1
      omega
    · have hi : ea_n h - 1 < ea_n (ea_wa h a (va_cpy (ea_i h a0) (ea_i h a) sp.toNatClampNeg dp.toNatClampNeg n.toNatClampNeg)) := by show ea_n h - 1 < ea_n h; omega
      have := (hP1 _ _ (ea_at hi)).lt
      have h5 := hA.2.2 (ea_n h - 1) (by omega)
      dsimp only at this
      omega
  exact kk.2.2.2 p l e s m args below meth c w H1 locs1 ls hC hA hKK hX h1 h2 (by show H1.size + _ = _ + ea_n h; omega) hP1 hS1 hl hq T hT X
end ECP
section EMM
variable {M : ea_M} {d : Nat} {h0 hE h : ea_H} {rv : Option ea_V} {pc : Nat} {lv : List (Nat × ea_V)} {st : List ea_V}
theorem ea_mminI {idx : Nat} {x y : Int32} (hd : decode M.2.1 pc = .ok (.invokestatic idx, 3)) (h1 : Cond.methodLink M.1.cls idx yJ9_min_7cf53 ∈ ea_tbl) (h2 : Cond.static yJ9_min_7cf53 ∈ ea_tbl) (h3 : Cond.initialized RJ9 ∈ ea_tbl) (h4 : Cond.code yJ9_min_7cf53 cJ9_min_7cf53 2 (some .int) ∈ ea_tbl) (hdd : 1 ≤ d) (hcat : ea_cats st ≤ 8)
    (kk : ea_W M d h0 rv hE (pc + 3) lv (vI (if y < x then y else x) :: st) h) : ea_W M d h0 rv hE pc lv (vI y :: vI x :: st) h := by
  refine ⟨kk.1, kk.2.1, kk.2.2.1, fun p l e s m args below meth c w H locs ls hC hA hKK hX g1 g2 g3 hP hS hl hq => ?_⟩
  have hkk := kk.2.2.2 p l e s m args below meth c w H locs ls hC hA hKK hX g1 g2 g3 hP hS hl hq
  have hts := hC.1.2.2.2.2
  have hsum : ((ea_st w.2.2.1 w.2.2.2 st).map fun v => v.category).sum ≤ 8 := by rw [ea_cats_eq]; exact hcat
  have a1 := kk.1
  have a2 := kk.2.1
  exact va_mmin hC.1.1 hC.1.2.1 (by rw [hC.1.2.2.1]; exact hl.1.symm) hC.1.2.2.2.1 (hts _ h1) (hts _ h2) (hts _ h3) (hts _ h4) hdd (Nat.le_trans (Nat.add_le_add_right hsum 13) (by show 8 + 13 ≤ 64 * d; omega)) (by show _ ≤ _; exact Nat.sub_le_sub_right a1 _) (by show _ ≤ _; exact Nat.sub_le_sub_right a2 _) hd hkk
theorem ea_mmaxI {idx : Nat} {x y : Int32} (hd : decode M.2.1 pc = .ok (.invokestatic idx, 3)) (h1 : Cond.methodLink M.1.cls idx yJ9_max_7cf53 ∈ ea_tbl) (h2 : Cond.static yJ9_max_7cf53 ∈ ea_tbl) (h3 : Cond.initialized RJ9 ∈ ea_tbl) (h4 : Cond.code yJ9_max_7cf53 cJ9_max_7cf53 2 (some .int) ∈ ea_tbl) (hdd : 1 ≤ d) (hcat : ea_cats st ≤ 8)
    (kk : ea_W M d h0 rv hE (pc + 3) lv (vI (if x < y then y else x) :: st) h) : ea_W M d h0 rv hE pc lv (vI y :: vI x :: st) h := by
  refine ⟨kk.1, kk.2.1, kk.2.2.1, fun p l e s m args below meth c w H locs ls hC hA hKK hX g1 g2 g3 hP hS hl hq => ?_⟩
  have hkk := kk.2.2.2 p l e s m args below meth c w H locs ls hC hA hKK hX g1 g2 g3 hP hS hl hq
  have hts := hC.1.2.2.2.2
  have hsum : ((ea_st w.2.2.1 w.2.2.2 st).map fun v => v.category).sum ≤ 8 := by rw [ea_cats_eq]; exact hcat
  have a1 := kk.1
  have a2 := kk.2.1
  exact va_mmax hC.1.1 hC.1.2.1 (by rw [hC.1.2.2.1]; exact hl.1.symm) hC.1.2.2.2.1 (hts _ h1) (hts _ h2) (hts _ h3) (hts _ h4) hdd (Nat.le_trans (Nat.add_le_add_right hsum 13) (by show 8 + 13 ≤ 64 * d; omega)) (by show _ ≤ _; exact Nat.sub_le_sub_right a1 _) (by show _ ≤ _; exact Nat.sub_le_sub_right a2 _) hd hkk
theorem ea_mminJ {idx : Nat} {x y : Int64} (hd : decode M.2.1 pc = .ok (.invokestatic idx, 3)) (h1 : Cond.methodLink M.1.cls idx yJ9_min_f86c9 ∈ ea_tbl) (h2 : Cond.static yJ9_min_f86c9 ∈ ea_tbl) (h3 : Cond.initialized RJ9 ∈ ea_tbl) (h4 : Cond.code yJ9_min_f86c9 cJ9_min_f86c9 4 (some .long) ∈ ea_tbl) (hdd : 1 ≤ d) (hcat : ea_cats st ≤ 8)
    (kk : ea_W M d h0 rv hE (pc + 3) lv (vJ (if y < x then y else x) :: st) h) : ea_W M d h0 rv hE pc lv (vJ y :: vJ x :: st) h := by
  refine ⟨kk.1, kk.2.1, kk.2.2.1, fun p l e s m args below meth c w H locs ls hC hA hKK hX g1 g2 g3 hP hS hl hq => ?_⟩
  have hkk := kk.2.2.2 p l e s m args below meth c w H locs ls hC hA hKK hX g1 g2 g3 hP hS hl hq
  have hts := hC.1.2.2.2.2
  have hsum : ((ea_st w.2.2.1 w.2.2.2 st).map fun v => v.category).sum ≤ 8 := by rw [ea_cats_eq]; exact hcat
  have a1 := kk.1
  have a2 := kk.2.1
  exact va_mmin_long hC.1.1 hC.1.2.1 (by rw [hC.1.2.2.1]; exact hl.1.symm) hC.1.2.2.2.1 (hts _ h1) (hts _ h2) (hts _ h3) (hts _ h4) hdd (Nat.le_trans (Nat.add_le_add_right hsum 15) (by show 8 + 15 ≤ 64 * d; omega)) (by show _ ≤ _; exact Nat.sub_le_sub_right a1 _) (by show _ ≤ _; exact Nat.sub_le_sub_right a2 _) hd hkk
theorem ea_iretO {x r : Int32} {h' : ea_H} {ty : FieldType} (hd : decode M.2.1 pc = .ok (.ireturn, 1)) (hr : M.2.2.2 = some ty) (hn : narrow ty (.int x) = .int x) (E : some (x, h) = some (r, h')) : ea_W M d h0 (some (vI r)) h' pc lv [vI x] h := by cases E; exact ea_ireturn hd hr hn
theorem ea_lretO {x r : Int64} {h' : ea_H} (hd : decode M.2.1 pc = .ok (.lreturn, 1)) (hr : M.2.2.2 = some .long) (E : some (x, h) = some (r, h')) : ea_W M d h0 (some (vJ r)) h' pc lv [vJ x] h := by cases E; exact ea_lreturn hd hr
theorem ea_aretO {x r : Option Nat} {h' : ea_H} {ty : FieldType} (hd : decode M.2.1 pc = .ok (.areturn, 1)) (hr : M.2.2.2 = some ty) (ht : (∃ n, ty = .object n) ∨ ∃ t, ty = .array t) (E : some (x, h) = some (r, h')) : ea_W M d h0 (some (vR r)) h' pc lv [vR x] h := by cases E; exact ea_areturn hd hr ht
theorem ea_vretO {r : Unit} {h' : ea_H} (hd : decode M.2.1 pc = .ok (.return_, 1)) (hr : M.2.2.2 = none) (E : some ((), h) = some (r, h')) : ea_W M d h0 none h' pc lv [] h := by cases E; exact ea_return hd hr
end EMM
