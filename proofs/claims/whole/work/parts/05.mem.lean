/-! the engine, 3: fields, rows, new cells, ends, calls -/
def ea_okt (t : FieldType) : Bool := match t with
  | .float => false
  | .double => false
  | _ => true
def ea_Cls (ci : Nat) (C : String) (T : u_T) (N : Nat) : Prop :=
  ea_cl[ci]? = some (C, T, N) ∧ ci < 20 ∧ ea_N ci = N ∧ (∀ x ∈ u_ws C T N, x ∈ ea_tbl) ∧ (∀ k, k < N → parseFieldDescriptor (T k).2.2.1 = some (ea_ty ci k)) ∧ (∀ a, a < N → ∀ b, b < N → a ≠ b → (T a).2.1 ≠ (T b).2.1) ∧ ∀ k, k < N → ea_okt (ea_ty ci k) = true
def ea_FL (own : String) (idx : Nat) (C n d : String) : Prop := Cond.fieldLink own idx C n d ∈ ea_tbl ∨ ∃ host, Cond.fieldLinkNest own idx C n d host ∈ ea_tbl
theorem ea_e_obj {κ : Nat → ClassId} {ad : Nat → Nat} {h : ea_H} {a ci : Nat} (hc : ea_c h a = ci) (h20 : ci < 20) : ea_e κ ad h a = .inr (ci, (List.range (ea_N ci)).map (ea_fv ad h ci a)) := by
  unfold ea_e
  rw [hc, if_pos h20]
theorem ea_e_arr {κ : Nat → ClassId} {ad : Nat → Nat} {h : ea_H} {a t : Nat} (hc : ea_c h a = t) (h20 : 20 ≤ t) : ea_e κ ad h a = .inl (κ t, ea_ar ad h a t) := by
  unfold ea_e
  rw [hc, if_neg (by omega)]
theorem ea_list_set {α : Type} {N : Nat} {f g : Nat → α} {k : Nat} {x : α} (hk : g k = x) (ho : ∀ j, j ≠ k → g j = f j) : ((List.range N).map f).set k x = (List.range N).map g := by
  apply List.ext_getElem?
  intro i
  by_cases hi : i < N
  · by_cases hik : i = k
    · subst hik
      rw [List.getElem?_set_self (by simp [hi])]
      simp [hi, hk]
    · rw [List.getElem?_set_ne (Ne.symm hik)]
      simp [hi, ho i hik]
  · rw [List.getElem?_eq_none (by simp; omega), List.getElem?_eq_none (by simp; omega)]
section EM
variable {M : ea_M} {d : Nat} {h0 hE h : ea_H} {rv : Option ea_V} {pc : Nat} {lv : List (Nat × ea_V)} {st : List ea_V}
theorem ea_getI {ci idx k a N : Nat} {C : String} {T : u_T} (hd : decode M.2.1 pc = .ok (.getfield idx, 3)) (hc : ea_Cls ci C T N) (hk : k < N) (hkd : ea_fk ci k = 0) (hf : ea_FL M.1.cls idx (T k).1 (T k).2.1 (T k).2.2.1) (ha : a < ea_n h) (hca : ea_c h a = ci) (kk : ea_W M d h0 rv hE (pc + 3) lv (vI (ea_i h a k) :: st) h) : ea_W M d h0 rv hE pc lv (vR (some a) :: st) h := by
  refine ⟨kk.1, kk.2.1, kk.2.2.1, fun p l e s m args below meth c w H locs ls hC hA hKK hX h1 h2 h3 hP hS hl hq => ?_⟩
  have hK := hKK.1
  have hkk := kk.2.2.2 p l e s m args below meth c w H locs ls hC hA hKK hX h1 h2 h3 hP hS hl hq
  have he : (ea_ws w.2.1 w.2.2.1 h)[a]? = some (w.2.2.1 a, .inr (ci, (List.range N).map (ea_fv w.2.2.1 h ci a))) := by rw [ea_at ha, ea_e_obj hca hc.2.1, hc.2.2.1]
  have hv : ((List.range N).map (ea_fv w.2.2.1 h ci a))[k]? = some (.int (ea_i h a k)) := by
    rw [List.getElem?_map, List.getElem?_range hk]
    simp only [Option.map_some]
    congr 1
    unfold ea_fv; rw [hkd]; simp
  rcases hf with hf | ⟨host, hf⟩
  · exact va_get hC.1.1 hC.1.2.1 hC.1.2.2.2.2 hc.2.2.2.1 hC.1.2.2.2.1 hK hP a he hc.1 k hk (hC.1.2.2.2.2 _ hf) (fun _ q => q) hv hd hkk
  · exact va_getN hC.1.1 hC.1.2.1 hC.1.2.2.2.2 hc.2.2.2.1 hC.1.2.2.2.1 hK hP a he hc.1 k hk (hC.1.2.2.2.2 _ hf) (fun _ q => q) hv hd hkk
theorem ea_getJ {ci idx k a N : Nat} {C : String} {T : u_T} (hd : decode M.2.1 pc = .ok (.getfield idx, 3)) (hc : ea_Cls ci C T N) (hk : k < N) (hkd : ea_fk ci k = 1) (hf : ea_FL M.1.cls idx (T k).1 (T k).2.1 (T k).2.2.1) (ha : a < ea_n h) (hca : ea_c h a = ci) (kk : ea_W M d h0 rv hE (pc + 3) lv (vJ (ea_j h a k) :: st) h) : ea_W M d h0 rv hE pc lv (vR (some a) :: st) h := by
  refine ⟨kk.1, kk.2.1, kk.2.2.1, fun p l e s m args below meth c w H locs ls hC hA hKK hX h1 h2 h3 hP hS hl hq => ?_⟩
  have hK := hKK.1
  have hkk := kk.2.2.2 p l e s m args below meth c w H locs ls hC hA hKK hX h1 h2 h3 hP hS hl hq
  have he : (ea_ws w.2.1 w.2.2.1 h)[a]? = some (w.2.2.1 a, .inr (ci, (List.range N).map (ea_fv w.2.2.1 h ci a))) := by rw [ea_at ha, ea_e_obj hca hc.2.1, hc.2.2.1]
  have hv : ((List.range N).map (ea_fv w.2.2.1 h ci a))[k]? = some (.long (ea_j h a k)) := by
    rw [List.getElem?_map, List.getElem?_range hk]
    simp only [Option.map_some]
    congr 1
    unfold ea_fv; rw [hkd]; simp
  rcases hf with hf | ⟨host, hf⟩
  · exact va_get hC.1.1 hC.1.2.1 hC.1.2.2.2.2 hc.2.2.2.1 hC.1.2.2.2.1 hK hP a he hc.1 k hk (hC.1.2.2.2.2 _ hf) (fun _ q => q) hv hd hkk
  · exact va_getN hC.1.1 hC.1.2.1 hC.1.2.2.2.2 hc.2.2.2.1 hC.1.2.2.2.1 hK hP a he hc.1 k hk (hC.1.2.2.2.2 _ hf) (fun _ q => q) hv hd hkk
theorem ea_getR {ci idx k a N : Nat} {C : String} {T : u_T} {r : Option Nat} (hd : decode M.2.1 pc = .ok (.getfield idx, 3)) (hc : ea_Cls ci C T N) (hk : k < N) (hkd : ea_fk ci k = 2) (hf : ea_FL M.1.cls idx (T k).1 (T k).2.1 (T k).2.2.1) (ha : a < ea_n h) (hca : ea_c h a = ci) (hr : ea_r h a k = r) (kk : ea_W M d h0 rv hE (pc + 3) lv (vR r :: st) h) : ea_W M d h0 rv hE pc lv (vR (some a) :: st) h := by
  refine ⟨kk.1, kk.2.1, kk.2.2.1, fun p l e s m args below meth c w H locs ls hC hA hKK hX h1 h2 h3 hP hS hl hq => ?_⟩
  have hK := hKK.1
  have hkk := kk.2.2.2 p l e s m args below meth c w H locs ls hC hA hKK hX h1 h2 h3 hP hS hl hq
  have he : (ea_ws w.2.1 w.2.2.1 h)[a]? = some (w.2.2.1 a, .inr (ci, (List.range N).map (ea_fv w.2.2.1 h ci a))) := by rw [ea_at ha, ea_e_obj hca hc.2.1, hc.2.2.1]
  have hv : ((List.range N).map (ea_fv w.2.2.1 h ci a))[k]? = some (va_rf (r.map w.2.2.1)) := by
    rw [List.getElem?_map, List.getElem?_range hk]
    simp only [Option.map_some]
    congr 1
    unfold ea_fv; rw [hkd, hr]; simp
  rcases hf with hf | ⟨host, hf⟩
  · exact va_get hC.1.1 hC.1.2.1 hC.1.2.2.2.2 hc.2.2.2.1 hC.1.2.2.2.1 hK hP a he hc.1 k hk (hC.1.2.2.2.2 _ hf) (fun _ q => q) hv hd hkk
  · exact va_getN hC.1.1 hC.1.2.1 hC.1.2.2.2.2 hc.2.2.2.1 hC.1.2.2.2.1 hK hP a he hc.1 k hk (hC.1.2.2.2.2 _ hf) (fun _ q => q) hv hd hkk
theorem ea_putI {ci idx k a N : Nat} {C : String} {T : u_T} {x : Int32} (hd : decode M.2.1 pc = .ok (.putfield idx, 3)) (hc : ea_Cls ci C T N) (hk : k < N) (hkd : ea_fk ci k = 0) (hf : ((T k).2.2.2 = false ∧ ea_FL M.1.cls idx (T k).1 (T k).2.1 (T k).2.2.1) ∨ ((T k).2.2.2 = true ∧ M.1.name = "<init>" ∧ (T k).1 = M.1.cls ∧ Cond.fieldLink M.1.cls idx (T k).1 (T k).2.1 (T k).2.2.1 ∈ ea_tbl)) (hn : narrow (ea_ty ci k) (.int x) = .int x) (hfit : fits (ea_ty ci k) (.int x) = true) (ha : a < ea_n h) (hca : ea_c h a = ci) (kk : ea_W M d h0 rv hE (pc + 3) lv st (ea_wi h a k x)) : ea_W M d h0 rv hE pc lv (vI x :: vR (some a) :: st) h := by
  refine ⟨kk.1, kk.2.1, kk.2.2.1, fun p l e s m args below meth c w H locs ls hC hA hKK hX h1 h2 h3 hP hS hl hq => ?_⟩
  have hK := hKK.1
  have hkk := fun H1 locs1 q1 q2 => kk.2.2.2 p l e s m args below meth c w H1 locs1 ls hC hA hKK hX h1 h2 q1 q2
  have he : (ea_ws w.2.1 w.2.2.1 h)[a]? = some (w.2.2.1 a, .inr (ci, (List.range N).map (ea_fv w.2.2.1 h ci a))) := by rw [ea_at ha, ea_e_obj hca hc.2.1, hc.2.2.1]
  have hs : (ea_ws w.2.1 w.2.2.1 h).set a (w.2.2.1 a, .inr (ci, ((List.range N).map (ea_fv w.2.2.1 h ci a)).set k (.int x))) = ea_ws w.2.1 w.2.2.1 (ea_wi h a k x) := by
    rw [← ea_ws_set (h' := ea_wi h a k x) (h := h) (a := a) rfl (fun b hb => ea_e_wi b hb)]
    congr 2
    rw [ea_e_obj (h := ea_wi h a k x) (show ea_c h a = ci from hca) hc.2.1, hc.2.2.1]
    congr 2
    refine ea_list_set ?_ ?_
    · unfold ea_fv
      rw [hkd]
      simp [ea_wi, ea_i, ea_j, ea_r, ea_u2]
    · intro j hj
      unfold ea_fv
      simp [ea_wi, ea_i, ea_j, ea_r, ea_u2, hj]
  have hna : narrow (ea_ty ci k) (.int x) = .int x := hn
  have hfi : fits (ea_ty ci k) (.int x) = true := hfit
  have hDD := hA.D (κ := w.2.1) (h := h) h1 h3
  have hz : k < ((List.range N).map (ea_fv w.2.2.1 h ci a)).length := by simpa using hk
  have fin : ∀ (H1 : Heap) (locs1 : List Loc), H1.size = H.size → va_P w.1 ea_cl ((ea_ws w.2.1 w.2.2.1 h).set a (w.2.2.1 a, .inr (ci, ((List.range N).map (ea_fv w.2.2.1 h ci a)).set k (.int x)))) H1 → va_S (ea_A w.2.2.1 (ea_n h0) s.heap.size) s.heap H1 locs1 → W p l e (ea_R d (ea_n hE - ea_n h0) (ea_s hE - ea_s h0)) s m args below meth c H1 locs1 (ea_n h - ea_n h0) (ea_s h - ea_s h0) (MQ below (ea_Qc w rv h0 hE s.heap.size) args s (ea_n hE - ea_n h0) (ea_s hE - ea_s h0) (ea_A w.2.2.1 (ea_n h0) s.heap.size)) (F0 m (pc + 3) ls (ea_st w.2.2.1 w.2.2.2 st)) := fun H1 locs1 hz1 hP1 hS1 => hkk H1 locs1 (by rw [hz1]; exact h3) (by rw [← hs]; exact hP1) hS1 hl hq
  have hap := va_apart (own := M.1.cls) hC.1.2.2.2.2 hc.2.2.2.1 (ea_ty ci) hc.2.2.2.2.1 hc.2.2.2.2.2.1 hK hc.1
  obtain ⟨r, g1, cell, q1, q2, q3, q4⟩ := hP a _ he
  have hr : r = (C, T, N) := Option.some.inj (g1.symm.trans hc.1)
  subst hr
  obtain ⟨hSl, hfc, kC, hkC, hkind⟩ := hK.1 ci _ hc.1
  obtain ⟨cf, kf, fi, f, hi, hsl⟩ := hSl k hk
  have hlay := hC.1.2.2.2.2 _ (hc.2.2.2.1 _ (u_in_lay hk))
  have hst := (u_facts hfc hkC (u_lays hC.1.2.2.2.2 hc.2.2.2.1 hk) hi).1
  have hpd := hc.2.2.2.2.1 k hk
  rcases hf with ⟨hfin, hf⟩ | ⟨hfin, hnm, hdecl, hf⟩
  · unfold u_lay at hlay
    rw [if_neg (by rw [hfin]; decide)] at hlay
    have h6 := u_store hfc hkC hkind hlay hi hpd hna hfi
    rcases hf with hf | ⟨host, hf⟩
    · refine W.putK hC.1.1 hC.1.2.1 (f := f) ⟨hC.1.2.2.2.1, hC.1.2.2.2.2 _ hf, ⟨_, _, _, hi⟩, hst⟩ (by rw [q2]; exact h6) q1 q3 (by rw [hsl]; exact k2_hasslot (q4 k hk)) rfl rfl hd fun H' e1 e2 e3 => ?_
      rw [hsl] at e1 ⊢
      exact fin H' _ e2 (hP.set hDD he ⟨_, hc.1, t_OB.to (V := updV (vp_V ((List.range N).map (ea_fv w.2.2.1 h ci a))) k (.int x)) ⟨_, e1, q2, q3, t_set q4 hap hk _⟩ (fun j _ => vp_updV_set hz _ j)⟩ e3) (hS.put e2 e3 (hDD.2 a _ he))
    · refine va_WputK hC.1.1 hC.1.2.1 (f := f) (host := host) hC.1.2.2.2.1 (hC.1.2.2.2.2 _ hf) hi hst (by rw [q2]; exact h6) q1 q3 (by rw [hsl]; exact k2_hasslot (q4 k hk)) rfl rfl hd fun H' e1 e2 e3 => ?_
      rw [hsl] at e1 ⊢
      exact fin H' _ e2 (hP.set hDD he ⟨_, hc.1, t_OB.to (V := updV (vp_V ((List.range N).map (ea_fv w.2.2.1 h ci a))) k (.int x)) ⟨_, e1, q2, q3, t_set q4 hap hk _⟩ (fun j _ => vp_updV_set hz _ j)⟩ e3) (hS.put e2 e3 (hDD.2 a _ he))
  · unfold u_lay at hlay
    rw [if_pos hfin] at hlay
    have hcf : m.cls = cf := by
      obtain ⟨_, _, c', _, _, _, -, -, hf', -, -, -, hown2, -⟩ := Cond.laysFinal_spec hlay
      have e1 : c' = cf := by have := hi.symm.trans hf'; simp at this; exact this.1.symm
      rw [hdecl] at hown2
      rw [← e1]; exact Option.some.inj (hC.1.2.2.2.1.symm.trans hown2)
    have h6 := u_fits hfc hkC hkind (Or.inr hlay) hi hpd hna hfi
    refine W.putFinK hC.1.1 hC.1.2.1 hC.1.2.2.2.1 (hC.1.2.2.2.2 _ hf) hi hst hcf (hC.2.2.2.trans hnm) (by rw [q2]; exact h6) q1 q3 (by rw [hsl]; exact k2_hasslot (q4 k hk)) rfl rfl hd fun H' e1 e2 e3 => ?_
    rw [hsl] at e1 ⊢
    exact fin H' _ e2 (hP.set hDD he ⟨_, hc.1, t_OB.to (V := updV (vp_V ((List.range N).map (ea_fv w.2.2.1 h ci a))) k (.int x)) ⟨_, e1, q2, q3, t_set q4 hap hk _⟩ (fun j _ => vp_updV_set hz _ j)⟩ e3) (hS.put e2 e3 (hDD.2 a _ he))
theorem ea_putJ {ci idx k a N : Nat} {C : String} {T : u_T} {x : Int64} (hd : decode M.2.1 pc = .ok (.putfield idx, 3)) (hc : ea_Cls ci C T N) (hk : k < N) (hkd : ea_fk ci k = 1) (hf : ((T k).2.2.2 = false ∧ ea_FL M.1.cls idx (T k).1 (T k).2.1 (T k).2.2.1) ∨ ((T k).2.2.2 = true ∧ M.1.name = "<init>" ∧ (T k).1 = M.1.cls ∧ Cond.fieldLink M.1.cls idx (T k).1 (T k).2.1 (T k).2.2.1 ∈ ea_tbl)) (ha : a < ea_n h) (hca : ea_c h a = ci) (kk : ea_W M d h0 rv hE (pc + 3) lv st (ea_wj h a k x)) : ea_W M d h0 rv hE pc lv (vJ x :: vR (some a) :: st) h := by
  refine ⟨kk.1, kk.2.1, kk.2.2.1, fun p l e s m args below meth c w H locs ls hC hA hKK hX h1 h2 h3 hP hS hl hq => ?_⟩
  have hK := hKK.1
  have hkk := fun H1 locs1 q1 q2 => kk.2.2.2 p l e s m args below meth c w H1 locs1 ls hC hA hKK hX h1 h2 q1 q2
  have he : (ea_ws w.2.1 w.2.2.1 h)[a]? = some (w.2.2.1 a, .inr (ci, (List.range N).map (ea_fv w.2.2.1 h ci a))) := by rw [ea_at ha, ea_e_obj hca hc.2.1, hc.2.2.1]
  have hs : (ea_ws w.2.1 w.2.2.1 h).set a (w.2.2.1 a, .inr (ci, ((List.range N).map (ea_fv w.2.2.1 h ci a)).set k (.long x))) = ea_ws w.2.1 w.2.2.1 (ea_wj h a k x) := by
    rw [← ea_ws_set (h' := ea_wj h a k x) (h := h) (a := a) rfl (fun b hb => ea_e_wj b hb)]
    congr 2
    rw [ea_e_obj (h := ea_wj h a k x) (show ea_c h a = ci from hca) hc.2.1, hc.2.2.1]
    congr 2
    refine ea_list_set ?_ ?_
    · unfold ea_fv
      rw [hkd]
      simp [ea_wj, ea_i, ea_j, ea_r, ea_u2]
    · intro j hj
      unfold ea_fv
      simp [ea_wj, ea_i, ea_j, ea_r, ea_u2, hj]
  have hty : ea_ty ci k = .long := by
    unfold ea_fk at hkd
    generalize ea_ty ci k = t at hkd ⊢
    cases t <;> first | rfl | (cases hkd)
  have hna : narrow (ea_ty ci k) (.long x) = .long x := by rw [hty]; rfl
  have hfi : fits (ea_ty ci k) (.long x) = true := by rw [hty]; rfl
  have hDD := hA.D (κ := w.2.1) (h := h) h1 h3
  have hz : k < ((List.range N).map (ea_fv w.2.2.1 h ci a)).length := by simpa using hk
  have fin : ∀ (H1 : Heap) (locs1 : List Loc), H1.size = H.size → va_P w.1 ea_cl ((ea_ws w.2.1 w.2.2.1 h).set a (w.2.2.1 a, .inr (ci, ((List.range N).map (ea_fv w.2.2.1 h ci a)).set k (.long x)))) H1 → va_S (ea_A w.2.2.1 (ea_n h0) s.heap.size) s.heap H1 locs1 → W p l e (ea_R d (ea_n hE - ea_n h0) (ea_s hE - ea_s h0)) s m args below meth c H1 locs1 (ea_n h - ea_n h0) (ea_s h - ea_s h0) (MQ below (ea_Qc w rv h0 hE s.heap.size) args s (ea_n hE - ea_n h0) (ea_s hE - ea_s h0) (ea_A w.2.2.1 (ea_n h0) s.heap.size)) (F0 m (pc + 3) ls (ea_st w.2.2.1 w.2.2.2 st)) := fun H1 locs1 hz1 hP1 hS1 => hkk H1 locs1 (by rw [hz1]; exact h3) (by rw [← hs]; exact hP1) hS1 hl hq
  have hap := va_apart (own := M.1.cls) hC.1.2.2.2.2 hc.2.2.2.1 (ea_ty ci) hc.2.2.2.2.1 hc.2.2.2.2.2.1 hK hc.1
  obtain ⟨r, g1, cell, q1, q2, q3, q4⟩ := hP a _ he
  have hr : r = (C, T, N) := Option.some.inj (g1.symm.trans hc.1)
  subst hr
  obtain ⟨hSl, hfc, kC, hkC, hkind⟩ := hK.1 ci _ hc.1
  obtain ⟨cf, kf, fi, f, hi, hsl⟩ := hSl k hk
  have hlay := hC.1.2.2.2.2 _ (hc.2.2.2.1 _ (u_in_lay hk))
  have hst := (u_facts hfc hkC (u_lays hC.1.2.2.2.2 hc.2.2.2.1 hk) hi).1
  have hpd := hc.2.2.2.2.1 k hk
  rcases hf with ⟨hfin, hf⟩ | ⟨hfin, hnm, hdecl, hf⟩
  · unfold u_lay at hlay
    rw [if_neg (by rw [hfin]; decide)] at hlay
    have h6 := u_store hfc hkC hkind hlay hi hpd hna hfi
    rcases hf with hf | ⟨host, hf⟩
    · refine W.putK hC.1.1 hC.1.2.1 (f := f) ⟨hC.1.2.2.2.1, hC.1.2.2.2.2 _ hf, ⟨_, _, _, hi⟩, hst⟩ (by rw [q2]; exact h6) q1 q3 (by rw [hsl]; exact k2_hasslot (q4 k hk)) rfl rfl hd fun H' e1 e2 e3 => ?_
      rw [hsl] at e1 ⊢
      exact fin H' _ e2 (hP.set hDD he ⟨_, hc.1, t_OB.to (V := updV (vp_V ((List.range N).map (ea_fv w.2.2.1 h ci a))) k (.long x)) ⟨_, e1, q2, q3, t_set q4 hap hk _⟩ (fun j _ => vp_updV_set hz _ j)⟩ e3) (hS.put e2 e3 (hDD.2 a _ he))
    · refine va_WputK hC.1.1 hC.1.2.1 (f := f) (host := host) hC.1.2.2.2.1 (hC.1.2.2.2.2 _ hf) hi hst (by rw [q2]; exact h6) q1 q3 (by rw [hsl]; exact k2_hasslot (q4 k hk)) rfl rfl hd fun H' e1 e2 e3 => ?_
      rw [hsl] at e1 ⊢
      exact fin H' _ e2 (hP.set hDD he ⟨_, hc.1, t_OB.to (V := updV (vp_V ((List.range N).map (ea_fv w.2.2.1 h ci a))) k (.long x)) ⟨_, e1, q2, q3, t_set q4 hap hk _⟩ (fun j _ => vp_updV_set hz _ j)⟩ e3) (hS.put e2 e3 (hDD.2 a _ he))
  · unfold u_lay at hlay
    rw [if_pos hfin] at hlay
    have hcf : m.cls = cf := by
      obtain ⟨_, _, c', _, _, _, -, -, hf', -, -, -, hown2, -⟩ := Cond.laysFinal_spec hlay
      have e1 : c' = cf := by have := hi.symm.trans hf'; simp at this; exact this.1.symm
      rw [hdecl] at hown2
      rw [← e1]; exact Option.some.inj (hC.1.2.2.2.1.symm.trans hown2)
    have h6 := u_fits hfc hkC hkind (Or.inr hlay) hi hpd hna hfi
    refine W.putFinK hC.1.1 hC.1.2.1 hC.1.2.2.2.1 (hC.1.2.2.2.2 _ hf) hi hst hcf (hC.2.2.2.trans hnm) (by rw [q2]; exact h6) q1 q3 (by rw [hsl]; exact k2_hasslot (q4 k hk)) rfl rfl hd fun H' e1 e2 e3 => ?_
    rw [hsl] at e1 ⊢
    exact fin H' _ e2 (hP.set hDD he ⟨_, hc.1, t_OB.to (V := updV (vp_V ((List.range N).map (ea_fv w.2.2.1 h ci a))) k (.long x)) ⟨_, e1, q2, q3, t_set q4 hap hk _⟩ (fun j _ => vp_updV_set hz _ j)⟩ e3) (hS.put e2 e3 (hDD.2 a _ he))
theorem ea_putR {ci idx k a N : Nat} {C : String} {T : u_T} {x : Option Nat} (hd : decode M.2.1 pc = .ok (.putfield idx, 3)) (hc : ea_Cls ci C T N) (hk : k < N) (hkd : ea_fk ci k = 2) (hf : ((T k).2.2.2 = false ∧ ea_FL M.1.cls idx (T k).1 (T k).2.1 (T k).2.2.1) ∨ ((T k).2.2.2 = true ∧ M.1.name = "<init>" ∧ (T k).1 = M.1.cls ∧ Cond.fieldLink M.1.cls idx (T k).1 (T k).2.1 (T k).2.2.1 ∈ ea_tbl)) (ha : a < ea_n h) (hca : ea_c h a = ci) (kk : ea_W M d h0 rv hE (pc + 3) lv st (ea_wr h a k x)) : ea_W M d h0 rv hE pc lv (vR x :: vR (some a) :: st) h := by
  refine ⟨kk.1, kk.2.1, kk.2.2.1, fun p l e s m args below meth c w H locs ls hC hA hKK hX h1 h2 h3 hP hS hl hq => ?_⟩
  have hK := hKK.1
  have hkk := fun H1 locs1 q1 q2 => kk.2.2.2 p l e s m args below meth c w H1 locs1 ls hC hA hKK hX h1 h2 q1 q2
  have he : (ea_ws w.2.1 w.2.2.1 h)[a]? = some (w.2.2.1 a, .inr (ci, (List.range N).map (ea_fv w.2.2.1 h ci a))) := by rw [ea_at ha, ea_e_obj hca hc.2.1, hc.2.2.1]
  have hs : (ea_ws w.2.1 w.2.2.1 h).set a (w.2.2.1 a, .inr (ci, ((List.range N).map (ea_fv w.2.2.1 h ci a)).set k (va_rf (x.map w.2.2.1)))) = ea_ws w.2.1 w.2.2.1 (ea_wr h a k x) := by
    rw [← ea_ws_set (h' := ea_wr h a k x) (h := h) (a := a) rfl (fun b hb => ea_e_wr b hb)]
    congr 2
    rw [ea_e_obj (h := ea_wr h a k x) (show ea_c h a = ci from hca) hc.2.1, hc.2.2.1]
    congr 2
    refine ea_list_set ?_ ?_
    · unfold ea_fv
      rw [hkd]
      simp [ea_wr, ea_i, ea_j, ea_r, ea_u2]
    · intro j hj
      unfold ea_fv
      simp [ea_wr, ea_i, ea_j, ea_r, ea_u2, hj]
  have hna : narrow (ea_ty ci k) (va_rf (x.map w.2.2.1)) = va_rf (x.map w.2.2.1) := by
    unfold ea_fk at hkd
    generalize ea_ty ci k = t at hkd ⊢
    cases x <;> cases t <;> first | rfl | (cases hkd)
  have hfi : fits (ea_ty ci k) (va_rf (x.map w.2.2.1)) = true := by
    unfold ea_fk at hkd
    generalize ea_ty ci k = t at hkd ⊢
    cases x <;> cases t <;> first | rfl | (cases hkd)
  have hDD := hA.D (κ := w.2.1) (h := h) h1 h3
  have hz : k < ((List.range N).map (ea_fv w.2.2.1 h ci a)).length := by simpa using hk
  have fin : ∀ (H1 : Heap) (locs1 : List Loc), H1.size = H.size → va_P w.1 ea_cl ((ea_ws w.2.1 w.2.2.1 h).set a (w.2.2.1 a, .inr (ci, ((List.range N).map (ea_fv w.2.2.1 h ci a)).set k (va_rf (x.map w.2.2.1))))) H1 → va_S (ea_A w.2.2.1 (ea_n h0) s.heap.size) s.heap H1 locs1 → W p l e (ea_R d (ea_n hE - ea_n h0) (ea_s hE - ea_s h0)) s m args below meth c H1 locs1 (ea_n h - ea_n h0) (ea_s h - ea_s h0) (MQ below (ea_Qc w rv h0 hE s.heap.size) args s (ea_n hE - ea_n h0) (ea_s hE - ea_s h0) (ea_A w.2.2.1 (ea_n h0) s.heap.size)) (F0 m (pc + 3) ls (ea_st w.2.2.1 w.2.2.2 st)) := fun H1 locs1 hz1 hP1 hS1 => hkk H1 locs1 (by rw [hz1]; exact h3) (by rw [← hs]; exact hP1) hS1 hl hq
  have hap := va_apart (own := M.1.cls) hC.1.2.2.2.2 hc.2.2.2.1 (ea_ty ci) hc.2.2.2.2.1 hc.2.2.2.2.2.1 hK hc.1
  obtain ⟨r, g1, cell, q1, q2, q3, q4⟩ := hP a _ he
  have hr : r = (C, T, N) := Option.some.inj (g1.symm.trans hc.1)
  subst hr
  obtain ⟨hSl, hfc, kC, hkC, hkind⟩ := hK.1 ci _ hc.1
  obtain ⟨cf, kf, fi, f, hi, hsl⟩ := hSl k hk
  have hlay := hC.1.2.2.2.2 _ (hc.2.2.2.1 _ (u_in_lay hk))
  have hst := (u_facts hfc hkC (u_lays hC.1.2.2.2.2 hc.2.2.2.1 hk) hi).1
  have hpd := hc.2.2.2.2.1 k hk
  rcases hf with ⟨hfin, hf⟩ | ⟨hfin, hnm, hdecl, hf⟩
  · unfold u_lay at hlay
    rw [if_neg (by rw [hfin]; decide)] at hlay
    have h6 := u_store hfc hkC hkind hlay hi hpd hna hfi
    rcases hf with hf | ⟨host, hf⟩
    · refine W.putK hC.1.1 hC.1.2.1 (f := f) ⟨hC.1.2.2.2.1, hC.1.2.2.2.2 _ hf, ⟨_, _, _, hi⟩, hst⟩ (by rw [q2]; exact h6) q1 q3 (by rw [hsl]; exact k2_hasslot (q4 k hk)) rfl rfl hd fun H' e1 e2 e3 => ?_
      rw [hsl] at e1 ⊢
      exact fin H' _ e2 (hP.set hDD he ⟨_, hc.1, t_OB.to (V := updV (vp_V ((List.range N).map (ea_fv w.2.2.1 h ci a))) k (va_rf (x.map w.2.2.1))) ⟨_, e1, q2, q3, t_set q4 hap hk _⟩ (fun j _ => vp_updV_set hz _ j)⟩ e3) (hS.put e2 e3 (hDD.2 a _ he))
    · refine va_WputK hC.1.1 hC.1.2.1 (f := f) (host := host) hC.1.2.2.2.1 (hC.1.2.2.2.2 _ hf) hi hst (by rw [q2]; exact h6) q1 q3 (by rw [hsl]; exact k2_hasslot (q4 k hk)) rfl rfl hd fun H' e1 e2 e3 => ?_
      rw [hsl] at e1 ⊢
      exact fin H' _ e2 (hP.set hDD he ⟨_, hc.1, t_OB.to (V := updV (vp_V ((List.range N).map (ea_fv w.2.2.1 h ci a))) k (va_rf (x.map w.2.2.1))) ⟨_, e1, q2, q3, t_set q4 hap hk _⟩ (fun j _ => vp_updV_set hz _ j)⟩ e3) (hS.put e2 e3 (hDD.2 a _ he))
  · unfold u_lay at hlay
    rw [if_pos hfin] at hlay
    have hcf : m.cls = cf := by
      obtain ⟨_, _, c', _, _, _, -, -, hf', -, -, -, hown2, -⟩ := Cond.laysFinal_spec hlay
      have e1 : c' = cf := by have := hi.symm.trans hf'; simp at this; exact this.1.symm
      rw [hdecl] at hown2
      rw [← e1]; exact Option.some.inj (hC.1.2.2.2.1.symm.trans hown2)
    have h6 := u_fits hfc hkC hkind (Or.inr hlay) hi hpd hna hfi
    refine W.putFinK hC.1.1 hC.1.2.1 hC.1.2.2.2.1 (hC.1.2.2.2.2 _ hf) hi hst hcf (hC.2.2.2.trans hnm) (by rw [q2]; exact h6) q1 q3 (by rw [hsl]; exact k2_hasslot (q4 k hk)) rfl rfl hd fun H' e1 e2 e3 => ?_
    rw [hsl] at e1 ⊢
    exact fin H' _ e2 (hP.set hDD he ⟨_, hc.1, t_OB.to (V := updV (vp_V ((List.range N).map (ea_fv w.2.2.1 h ci a))) k (va_rf (x.map w.2.2.1))) ⟨_, e1, q2, q3, t_set q4 hap hk _⟩ (fun j _ => vp_updV_set hz _ j)⟩ e3) (hS.put e2 e3 (hDD.2 a _ he))
end EM
