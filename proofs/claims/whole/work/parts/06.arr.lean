/-! the engine, 4: arrays, new cells, ends, switches -/
section EB
variable {M : ea_M} {d : Nat} {h0 hE h : ea_H} {rv : Option ea_V} {pc : Nat} {lv : List (Nat × ea_V)} {st : List ea_V}
theorem ea_iald {a : Nat} {i : Int32} (hd : decode M.2.1 pc = .ok (.iaload, 1)) (ha : a < ea_n h) (hca : ea_c h a = 20) (hin : vp_in i (ea_l h a)) (kk : ea_W M d h0 rv hE (pc + 1) lv (vI (ea_i h a i.toNatClampNeg) :: st) h) : ea_W M d h0 rv hE pc lv (vI i :: vR (some a) :: st) h := by
  refine ⟨kk.1, kk.2.1, kk.2.2.1, fun p l e s m args below meth c w H locs ls hC hA hKK hX h1 h2 h3 hP hS hl hq => ?_⟩
  have hK := hKK.1
  have hkk := kk.2.2.2 p l e s m args below meth c w H locs ls hC hA hKK hX h1 h2 h3 hP hS hl hq
  have he : (ea_ws w.2.1 w.2.2.1 h)[a]? = some (w.2.2.1 a, .inl (w.2.1 20, ea_l h a, (.inl (ea_i h a)))) := by rw [ea_at ha, ea_e_arr hca (by omega)]; rfl
  exact va_iald hC.1.1 hC.1.2.1 hK hP a 0 he rfl hin hd hkk
theorem ea_zald {a : Nat} {i : Int32} (hd : decode M.2.1 pc = .ok (.baload, 1)) (ha : a < ea_n h) (hca : ea_c h a = 21) (hin : vp_in i (ea_l h a)) (kk : ea_W M d h0 rv hE (pc + 1) lv (vI (ea_i h a i.toNatClampNeg) :: st) h) : ea_W M d h0 rv hE pc lv (vI i :: vR (some a) :: st) h := by
  refine ⟨kk.1, kk.2.1, kk.2.2.1, fun p l e s m args below meth c w H locs ls hC hA hKK hX h1 h2 h3 hP hS hl hq => ?_⟩
  have hK := hKK.1
  have hkk := kk.2.2.2 p l e s m args below meth c w H locs ls hC hA hKK hX h1 h2 h3 hP hS hl hq
  have he : (ea_ws w.2.1 w.2.2.1 h)[a]? = some (w.2.2.1 a, .inl (w.2.1 21, ea_l h a, (.inl (ea_i h a)))) := by rw [ea_at ha, ea_e_arr hca (by omega)]; rfl
  exact va_zald hC.1.1 hC.1.2.1 hK hP a 1 he rfl hin hd hkk
theorem ea_lald {a : Nat} {i : Int32} (hd : decode M.2.1 pc = .ok (.laload, 1)) (ha : a < ea_n h) (hca : ea_c h a = 22) (hin : vp_in i (ea_l h a)) (kk : ea_W M d h0 rv hE (pc + 1) lv (vJ (ea_j h a i.toNatClampNeg) :: st) h) : ea_W M d h0 rv hE pc lv (vI i :: vR (some a) :: st) h := by
  refine ⟨kk.1, kk.2.1, kk.2.2.1, fun p l e s m args below meth c w H locs ls hC hA hKK hX h1 h2 h3 hP hS hl hq => ?_⟩
  have hK := hKK.1
  have hkk := kk.2.2.2 p l e s m args below meth c w H locs ls hC hA hKK hX h1 h2 h3 hP hS hl hq
  have he : (ea_ws w.2.1 w.2.2.1 h)[a]? = some (w.2.2.1 a, .inl (w.2.1 22, ea_l h a, (.inr (.inl (ea_j h a))))) := by rw [ea_at ha, ea_e_arr hca (by omega)]; rfl
  exact va_lald hC.1.1 hC.1.2.1 hK hP a 2 he rfl hin hd hkk
theorem ea_aald23 {a : Nat} {i : Int32} {r : Option Nat} (hd : decode M.2.1 pc = .ok (.aaload, 1)) (ha : a < ea_n h) (hca : ea_c h a = 23) (hin : vp_in i (ea_l h a)) (hr : ea_r h a i.toNatClampNeg = r) (kk : ea_W M d h0 rv hE (pc + 1) lv (vR r :: st) h) : ea_W M d h0 rv hE pc lv (vI i :: vR (some a) :: st) h := by
  refine ⟨kk.1, kk.2.1, kk.2.2.1, fun p l e s m args below meth c w H locs ls hC hA hKK hX h1 h2 h3 hP hS hl hq => ?_⟩
  have hK := hKK.1
  have hkk := kk.2.2.2 p l e s m args below meth c w H locs ls hC hA hKK hX h1 h2 h3 hP hS hl hq
  subst hr
  have he : (ea_ws w.2.1 w.2.2.1 h)[a]? = some (w.2.2.1 a, .inl (w.2.1 23, ea_l h a, (.inr (.inr (.inr (.inr fun j => (ea_r h a j).map w.2.2.1)))))) := by rw [ea_at ha, ea_e_arr hca (by omega)]; rfl
  exact va_aldq hC.1.1 hC.1.2.1 hK hP a 3 he rfl hin hd hkk
theorem ea_aald24 {a : Nat} {i : Int32} {r : Option Nat} (hd : decode M.2.1 pc = .ok (.aaload, 1)) (ha : a < ea_n h) (hca : ea_c h a = 24) (hin : vp_in i (ea_l h a)) (hr : ea_r h a i.toNatClampNeg = r) (kk : ea_W M d h0 rv hE (pc + 1) lv (vR r :: st) h) : ea_W M d h0 rv hE pc lv (vI i :: vR (some a) :: st) h := by
  refine ⟨kk.1, kk.2.1, kk.2.2.1, fun p l e s m args below meth c w H locs ls hC hA hKK hX h1 h2 h3 hP hS hl hq => ?_⟩
  have hK := hKK.1
  have hkk := kk.2.2.2 p l e s m args below meth c w H locs ls hC hA hKK hX h1 h2 h3 hP hS hl hq
  subst hr
  have he : (ea_ws w.2.1 w.2.2.1 h)[a]? = some (w.2.2.1 a, .inl (w.2.1 24, ea_l h a, (.inr (.inr (.inr (.inr fun j => (ea_r h a j).map w.2.2.1)))))) := by rw [ea_at ha, ea_e_arr hca (by omega)]; rfl
  exact va_aldq hC.1.1 hC.1.2.1 hK hP a 4 he rfl hin hd hkk
theorem ea_aald25 {a : Nat} {i : Int32} {r : Option Nat} (hd : decode M.2.1 pc = .ok (.aaload, 1)) (ha : a < ea_n h) (hca : ea_c h a = 25) (hin : vp_in i (ea_l h a)) (hr : ea_r h a i.toNatClampNeg = r) (kk : ea_W M d h0 rv hE (pc + 1) lv (vR r :: st) h) : ea_W M d h0 rv hE pc lv (vI i :: vR (some a) :: st) h := by
  refine ⟨kk.1, kk.2.1, kk.2.2.1, fun p l e s m args below meth c w H locs ls hC hA hKK hX h1 h2 h3 hP hS hl hq => ?_⟩
  have hK := hKK.1
  have hkk := kk.2.2.2 p l e s m args below meth c w H locs ls hC hA hKK hX h1 h2 h3 hP hS hl hq
  subst hr
  have he : (ea_ws w.2.1 w.2.2.1 h)[a]? = some (w.2.2.1 a, .inl (w.2.1 25, ea_l h a, (.inr (.inr (.inr (.inr fun j => (ea_r h a j).map w.2.2.1)))))) := by rw [ea_at ha, ea_e_arr hca (by omega)]; rfl
  exact va_aldq hC.1.1 hC.1.2.1 hK hP a 5 he rfl hin hd hkk
theorem ea_iast {a : Nat} {i : Int32} {x : Int32} (hd : decode M.2.1 pc = .ok (.iastore, 1)) (ha : a < ea_n h) (hca : ea_c h a = 20) (hin : vp_in i (ea_l h a)) (kk : ea_W M d h0 rv hE (pc + 1) lv st (ea_wi h a i.toNatClampNeg x)) : ea_W M d h0 rv hE pc lv (vI x :: vI i :: vR (some a) :: st) h := by
  refine ⟨kk.1, kk.2.1, kk.2.2.1, fun p l e s m args below meth c w H locs ls hC hA hKK hX h1 h2 h3 hP hS hl hq => ?_⟩
  have hK := hKK.1
  have he : (ea_ws w.2.1 w.2.2.1 h)[a]? = some (w.2.2.1 a, .inl (w.2.1 20, ea_l h a, (.inl (ea_i h a)))) := by rw [ea_at ha, ea_e_arr hca (by omega)]; rfl
  have hDD := hA.D (κ := w.2.1) (h := h) h1 h3
  refine W.iast hC.1.1 hC.1.2.1 (hP a _ he) ((hK.2 0 _ rfl).1 (ea_l h a) (fun j => .int (ea_i h a j))) (fun q => by cases q) (by show ¬ (i < 0 ∨ (arrV _ _ _).slots.size ≤ _); rw [arrV_size]; exact hin) rfl rfl hd fun H1 ee z oq => ?_
  refine kk.2.2.2 p l e s m args below meth c w H1 _ ls hC hA hKK hX h1 h2 (by rw [z]; exact h3) ?_ (hS.put z oq (hDD.2 a _ he)) hl hq
  rw [← ea_ws_set (h' := ea_wi h a i.toNatClampNeg x) (h := h) (a := a) rfl (fun b hb => ea_e_wi b hb)]
  refine hP.set hDD he ?_ oq
  rw [ea_e_arr (h := ea_wi h a i.toNatClampNeg x) (show ea_c h a = 20 from hca) (by omega)]
  show H1[w.2.2.1 a]? = some (vp_cell (w.2.1 20) (ea_l h a, _))
  rw [ee]
  rw [vp_cell_i, arrV_store, if_pos (show (20 : Nat) ≤ 21 by omega), vp_cell_i]
  congr 2
  funext q
  by_cases hq : q = i.toNatClampNeg <;> simp [updV, ea_wi, ea_i, ea_j, ea_u2, hq]
theorem ea_zast {a : Nat} {i : Int32} {x y : Int32} (hd : decode M.2.1 pc = .ok (.bastore, 1)) (hy : narrow .boolean (.int x) = .int y) (ha : a < ea_n h) (hca : ea_c h a = 21) (hin : vp_in i (ea_l h a)) (kk : ea_W M d h0 rv hE (pc + 1) lv st (ea_wi h a i.toNatClampNeg y)) : ea_W M d h0 rv hE pc lv (vI x :: vI i :: vR (some a) :: st) h := by
  refine ⟨kk.1, kk.2.1, kk.2.2.1, fun p l e s m args below meth c w H locs ls hC hA hKK hX h1 h2 h3 hP hS hl hq => ?_⟩
  have hK := hKK.1
  have he : (ea_ws w.2.1 w.2.2.1 h)[a]? = some (w.2.2.1 a, .inl (w.2.1 21, ea_l h a, (.inl (ea_i h a)))) := by rw [ea_at ha, ea_e_arr hca (by omega)]; rfl
  have hDD := hA.D (κ := w.2.1) (h := h) h1 h3
  refine W.zast hC.1.1 hC.1.2.1 (hP a _ he) ((hK.2 1 _ rfl).1 (ea_l h a) (fun j => .int (ea_i h a j))) (fun q => by cases q) (by show ¬ (i < 0 ∨ (arrV _ _ _).slots.size ≤ _); rw [arrV_size]; exact hin) rfl rfl hd fun H1 ee z oq => ?_
  rw [hy] at ee
  refine kk.2.2.2 p l e s m args below meth c w H1 _ ls hC hA hKK hX h1 h2 (by rw [z]; exact h3) ?_ (hS.put z oq (hDD.2 a _ he)) hl hq
  rw [← ea_ws_set (h' := ea_wi h a i.toNatClampNeg y) (h := h) (a := a) rfl (fun b hb => ea_e_wi b hb)]
  refine hP.set hDD he ?_ oq
  rw [ea_e_arr (h := ea_wi h a i.toNatClampNeg y) (show ea_c h a = 21 from hca) (by omega)]
  show H1[w.2.2.1 a]? = some (vp_cell (w.2.1 21) (ea_l h a, _))
  rw [ee]
  rw [vp_cell_i, arrV_store, if_pos (show (21 : Nat) ≤ 21 by omega), vp_cell_i]
  congr 2
  funext q
  by_cases hq : q = i.toNatClampNeg <;> simp [updV, ea_wi, ea_i, ea_j, ea_u2, hq]
theorem ea_last {a : Nat} {i : Int32} {x : Int64} (hd : decode M.2.1 pc = .ok (.lastore, 1)) (ha : a < ea_n h) (hca : ea_c h a = 22) (hin : vp_in i (ea_l h a)) (kk : ea_W M d h0 rv hE (pc + 1) lv st (ea_wj h a i.toNatClampNeg x)) : ea_W M d h0 rv hE pc lv (vJ x :: vI i :: vR (some a) :: st) h := by
  refine ⟨kk.1, kk.2.1, kk.2.2.1, fun p l e s m args below meth c w H locs ls hC hA hKK hX h1 h2 h3 hP hS hl hq => ?_⟩
  have hK := hKK.1
  have he : (ea_ws w.2.1 w.2.2.1 h)[a]? = some (w.2.2.1 a, .inl (w.2.1 22, ea_l h a, (.inr (.inl (ea_j h a))))) := by rw [ea_at ha, ea_e_arr hca (by omega)]; rfl
  have hDD := hA.D (κ := w.2.1) (h := h) h1 h3
  refine W.last hC.1.1 hC.1.2.1 (hP a _ he) ((hK.2 2 _ rfl).1 (ea_l h a) (fun j => .long (ea_j h a j))) (fun q => by cases q) (by show ¬ (i < 0 ∨ (arrV _ _ _).slots.size ≤ _); rw [arrV_size]; exact hin) rfl rfl hd fun H1 ee z oq => ?_
  refine kk.2.2.2 p l e s m args below meth c w H1 _ ls hC hA hKK hX h1 h2 (by rw [z]; exact h3) ?_ (hS.put z oq (hDD.2 a _ he)) hl hq
  rw [← ea_ws_set (h' := ea_wj h a i.toNatClampNeg x) (h := h) (a := a) rfl (fun b hb => ea_e_wj b hb)]
  refine hP.set hDD he ?_ oq
  rw [ea_e_arr (h := ea_wj h a i.toNatClampNeg x) (show ea_c h a = 22 from hca) (by omega)]
  show H1[w.2.2.1 a]? = some (vp_cell (w.2.1 22) (ea_l h a, _))
  rw [ee]
  rw [vp_cell_l, arrV_store, if_neg (show ¬ (22 : Nat) ≤ 21 by omega), if_pos rfl, vp_cell_l]
  congr 2
  funext q
  by_cases hq : q = i.toNatClampNeg <;> simp [updV, ea_wj, ea_i, ea_j, ea_u2, hq]
theorem ea_aast23 {a v : Nat} {i : Int32} (hd : decode M.2.1 pc = .ok (.aastore, 1)) (ha : a < ea_n h) (hca : ea_c h a = 23) (hin : vp_in i (ea_l h a)) (hv : v < ea_n h) (hcv : ea_c h v = 5) (kk : ea_W M d h0 rv hE (pc + 1) lv st (ea_wr h a i.toNatClampNeg (some v))) : ea_W M d h0 rv hE pc lv (vR (some v) :: vI i :: vR (some a) :: st) h := by
  refine ⟨kk.1, kk.2.1, kk.2.2.1, fun p l e s m args below meth c w H locs ls hC hA hKK hX h1 h2 h3 hP hS hl hq => ?_⟩
  have hK := hKK.1
  have he : (ea_ws w.2.1 w.2.2.1 h)[a]? = some (w.2.2.1 a, .inl (w.2.1 23, ea_l h a, (.inr (.inr (.inr (.inr fun j => (ea_r h a j).map w.2.2.1)))))) := by rw [ea_at ha, ea_e_arr hca (by omega)]; rfl
  have hev : (ea_ws w.2.1 w.2.2.1 h)[v]? = some (w.2.2.1 v, .inr (5, (List.range (ea_N 5)).map (ea_fv w.2.2.1 h 5 v))) := by rw [ea_at hv, ea_e_obj hcv (by omega)]
  have hDD := hA.D (κ := w.2.1) (h := h) h1 h3
  have hlt : i.toNatClampNeg < ea_l h a := Nat.not_le.mp fun q => hin (Or.inr q)
  have g0 : ¬ i < 0 := fun q => hin (Or.inl q)
  obtain ⟨r', hr', cellV, g1, g2, g3, -⟩ := hP v _ hev
  have hcls := (hK.1 5 _ (rfl : ea_cl[5]? = some (RX5, TX5, ea_N 5))).2
  obtain ⟨kA, comp, k1, k2, k3, -⟩ := (hK.2 3 _ rfl).2
  have hcomp : comp = w.1.1 5 := Option.some.inj (k3.symm.trans hcls.1)
  subst hcomp
  obtain ⟨kC, hkC, -⟩ := hcls.2
  refine W.aast hC.1.1 hC.1.2.1 (hP a _ he) (fun q h => by cases h) (fun h => by cases h) k1 k2 rfl hkC ⟨g0, by show _ < (arrV _ _ _).slots.size; rw [arrV_size]; exact hlt⟩ g1 (fun q h => by rw [g3] at h; cases h) (by rw [g2]; exact hkC) (by rw [g2]; exact va_assign hcls) rfl rfl hd fun H1 ee z oq => ?_
  refine kk.2.2.2 p l e s m args below meth c w H1 _ ls hC hA hKK hX h1 h2 (by rw [z]; exact h3) ?_ (hS.put z oq (hDD.2 a _ he)) hl hq
  rw [← ea_ws_set (h' := ea_wr h a i.toNatClampNeg (some v)) (h := h) (a := a) rfl (fun b hb => ea_e_wr b hb)]
  refine hP.set hDD he ?_ oq
  rw [ea_e_arr (h := ea_wr h a i.toNatClampNeg (some v)) (show ea_c h a = 23 from hca) (by omega)]
  show H1[w.2.2.1 a]? = some (vp_cell (w.2.1 23) (ea_l h a, _))
  rw [ee]
  rw [vp_cell_q, arrV_store, if_neg (show ¬ (23 : Nat) ≤ 21 by omega), if_neg (show ¬ (23 : Nat) = 22 by omega), vp_cell_q]
  congr 2
  funext q
  by_cases hq : q = i.toNatClampNeg <;> simp [updV, ea_wr, ea_r, ea_u2, hq, va_rf]
theorem ea_aast24 {a v : Nat} {i : Int32} (hd : decode M.2.1 pc = .ok (.aastore, 1)) (ha : a < ea_n h) (hca : ea_c h a = 24) (hin : vp_in i (ea_l h a)) (hv : v < ea_n h) (hcv : ea_c h v = 2) (kk : ea_W M d h0 rv hE (pc + 1) lv st (ea_wr h a i.toNatClampNeg (some v))) : ea_W M d h0 rv hE pc lv (vR (some v) :: vI i :: vR (some a) :: st) h := by
  refine ⟨kk.1, kk.2.1, kk.2.2.1, fun p l e s m args below meth c w H locs ls hC hA hKK hX h1 h2 h3 hP hS hl hq => ?_⟩
  have hK := hKK.1
  have he : (ea_ws w.2.1 w.2.2.1 h)[a]? = some (w.2.2.1 a, .inl (w.2.1 24, ea_l h a, (.inr (.inr (.inr (.inr fun j => (ea_r h a j).map w.2.2.1)))))) := by rw [ea_at ha, ea_e_arr hca (by omega)]; rfl
  have hev : (ea_ws w.2.1 w.2.2.1 h)[v]? = some (w.2.2.1 v, .inr (2, (List.range (ea_N 2)).map (ea_fv w.2.2.1 h 2 v))) := by rw [ea_at hv, ea_e_obj hcv (by omega)]
  have hDD := hA.D (κ := w.2.1) (h := h) h1 h3
  have hlt : i.toNatClampNeg < ea_l h a := Nat.not_le.mp fun q => hin (Or.inr q)
  have g0 : ¬ i < 0 := fun q => hin (Or.inl q)
  obtain ⟨r', hr', cellV, g1, g2, g3, -⟩ := hP v _ hev
  have hcls := (hK.1 2 _ (rfl : ea_cl[2]? = some (RX2, TX2, ea_N 2))).2
  obtain ⟨kA, comp, k1, k2, k3, -⟩ := (hK.2 4 _ rfl).2
  have hcomp : comp = w.1.1 2 := Option.some.inj (k3.symm.trans hcls.1)
  subst hcomp
  obtain ⟨kC, hkC, -⟩ := hcls.2
  refine W.aast hC.1.1 hC.1.2.1 (hP a _ he) (fun q h => by cases h) (fun h => by cases h) k1 k2 rfl hkC ⟨g0, by show _ < (arrV _ _ _).slots.size; rw [arrV_size]; exact hlt⟩ g1 (fun q h => by rw [g3] at h; cases h) (by rw [g2]; exact hkC) (by rw [g2]; exact va_assign hcls) rfl rfl hd fun H1 ee z oq => ?_
  refine kk.2.2.2 p l e s m args below meth c w H1 _ ls hC hA hKK hX h1 h2 (by rw [z]; exact h3) ?_ (hS.put z oq (hDD.2 a _ he)) hl hq
  rw [← ea_ws_set (h' := ea_wr h a i.toNatClampNeg (some v)) (h := h) (a := a) rfl (fun b hb => ea_e_wr b hb)]
  refine hP.set hDD he ?_ oq
  rw [ea_e_arr (h := ea_wr h a i.toNatClampNeg (some v)) (show ea_c h a = 24 from hca) (by omega)]
  show H1[w.2.2.1 a]? = some (vp_cell (w.2.1 24) (ea_l h a, _))
  rw [ee]
  rw [vp_cell_q, arrV_store, if_neg (show ¬ (24 : Nat) ≤ 21 by omega), if_neg (show ¬ (24 : Nat) = 22 by omega), vp_cell_q]
  congr 2
  funext q
  by_cases hq : q = i.toNatClampNeg <;> simp [updV, ea_wr, ea_r, ea_u2, hq, va_rf]
theorem ea_aast25 {a v : Nat} {i : Int32} (hd : decode M.2.1 pc = .ok (.aastore, 1)) (ha : a < ea_n h) (hca : ea_c h a = 25) (hin : vp_in i (ea_l h a)) (hv : v < ea_n h) (hcv : ea_c h v = 0) (kk : ea_W M d h0 rv hE (pc + 1) lv st (ea_wr h a i.toNatClampNeg (some v))) : ea_W M d h0 rv hE pc lv (vR (some v) :: vI i :: vR (some a) :: st) h := by
  refine ⟨kk.1, kk.2.1, kk.2.2.1, fun p l e s m args below meth c w H locs ls hC hA hKK hX h1 h2 h3 hP hS hl hq => ?_⟩
  have hK := hKK.1
  have he : (ea_ws w.2.1 w.2.2.1 h)[a]? = some (w.2.2.1 a, .inl (w.2.1 25, ea_l h a, (.inr (.inr (.inr (.inr fun j => (ea_r h a j).map w.2.2.1)))))) := by rw [ea_at ha, ea_e_arr hca (by omega)]; rfl
  have hev : (ea_ws w.2.1 w.2.2.1 h)[v]? = some (w.2.2.1 v, .inr (0, (List.range (ea_N 0)).map (ea_fv w.2.2.1 h 0 v))) := by rw [ea_at hv, ea_e_obj hcv (by omega)]
  have hDD := hA.D (κ := w.2.1) (h := h) h1 h3
  have hlt : i.toNatClampNeg < ea_l h a := Nat.not_le.mp fun q => hin (Or.inr q)
  have g0 : ¬ i < 0 := fun q => hin (Or.inl q)
  obtain ⟨r', hr', cellV, g1, g2, g3, -⟩ := hP v _ hev
  have hcls := (hK.1 0 _ (rfl : ea_cl[0]? = some (RX0, TX0, ea_N 0))).2
  obtain ⟨kA, comp, k1, k2, k3, -⟩ := (hK.2 5 _ rfl).2
  have hcomp : comp = w.1.1 0 := Option.some.inj (k3.symm.trans hcls.1)
  subst hcomp
  obtain ⟨kC, hkC, -⟩ := hcls.2
  refine W.aast hC.1.1 hC.1.2.1 (hP a _ he) (fun q h => by cases h) (fun h => by cases h) k1 k2 rfl hkC ⟨g0, by show _ < (arrV _ _ _).slots.size; rw [arrV_size]; exact hlt⟩ g1 (fun q h => by rw [g3] at h; cases h) (by rw [g2]; exact hkC) (by rw [g2]; exact va_assign hcls) rfl rfl hd fun H1 ee z oq => ?_
  refine kk.2.2.2 p l e s m args below meth c w H1 _ ls hC hA hKK hX h1 h2 (by rw [z]; exact h3) ?_ (hS.put z oq (hDD.2 a _ he)) hl hq
  rw [← ea_ws_set (h' := ea_wr h a i.toNatClampNeg (some v)) (h := h) (a := a) rfl (fun b hb => ea_e_wr b hb)]
  refine hP.set hDD he ?_ oq
  rw [ea_e_arr (h := ea_wr h a i.toNatClampNeg (some v)) (show ea_c h a = 25 from hca) (by omega)]
  show H1[w.2.2.1 a]? = some (vp_cell (w.2.1 25) (ea_l h a, _))
  rw [ee]
  rw [vp_cell_q, arrV_store, if_neg (show ¬ (25 : Nat) ≤ 21 by omega), if_neg (show ¬ (25 : Nat) = 22 by omega), vp_cell_q]
  congr 2
  funext q
  by_cases hq : q = i.toNatClampNeg <;> simp [updV, ea_wr, ea_r, ea_u2, hq, va_rf]
theorem ea_alen {a t : Nat} (hd : decode M.2.1 pc = .ok (.arraylength, 1)) (ha : a < ea_n h) (hca : ea_c h a = t) (ht : 20 ≤ t) (ht2 : t ≤ 25) (kk : ea_W M d h0 rv hE (pc + 1) lv (vI (Int32.ofNat (ea_l h a)) :: st) h) : ea_W M d h0 rv hE pc lv (vR (some a) :: st) h := by
  refine ⟨kk.1, kk.2.1, kk.2.2.1, fun p l e s m args below meth c w H locs ls hC hA hKK hX h1 h2 h3 hP hS hl hq => ?_⟩
  have hK := hKK.1
  have hkk := kk.2.2.2 p l e s m args below meth c w H locs ls hC hA hKK hX h1 h2 h3 hP hS hl hq
  have he : (ea_ws w.2.1 w.2.2.1 h)[a]? = some (w.2.2.1 a, .inl (w.2.1 t, ea_ar w.2.2.1 h a t)) := by rw [ea_at ha, ea_e_arr hca ht]
  have hty : ∃ ty, (ea_tys w.2.1)[t - 20]? = some (w.2.1 t, ty) := by
    have : t = 20 ∨ t = 21 ∨ t = 22 ∨ t = 23 ∨ t = 24 ∨ t = 25 := by omega
    rcases this with rfl | rfl | rfl | rfl | rfl | rfl <;> exact ⟨_, rfl⟩
  obtain ⟨ty, hty⟩ := hty
  exact va_alen hC.1.1 hC.1.2.1 hK hP a (t - 20) he hty rfl hd hkk
theorem ea_sizes {c len sz : Nat} (g1 : ea_n h0 ≤ ea_n h) (g2 : ea_s h0 ≤ ea_s h) (k1 : ea_n (ea_new h c len sz) ≤ ea_n hE) (k2 : ea_s (ea_new h c len sz) ≤ ea_s hE) : ea_n h - ea_n h0 + 1 ≤ ea_n hE - ea_n h0 ∧ ea_s h - ea_s h0 + sz ≤ ea_s hE - ea_s h0 ∧ ea_n (ea_new h c len sz) - ea_n h0 = ea_n h - ea_n h0 + 1 ∧ ea_s (ea_new h c len sz) - ea_s h0 = ea_s h - ea_s h0 + sz := by
  have e1 : ea_n (ea_new h c len sz) = ea_n h + 1 := rfl
  have e2 : ea_s (ea_new h c len sz) = ea_s h + sz := rfl
  omega
theorem ea_pushed {c len sz : Nat} {w : ea_G} {H H1 : Heap} (hn : w.2.2.1 (ea_n h) = H.size) (hP : va_P w.1 ea_cl (ea_ws w.2.1 w.2.2.1 h) H) (o1 : ∀ q : Nat, q < H.size → H1[q]? = H[q]?) (ha : va_at w.1 ea_cl (H.size, ea_e w.2.1 w.2.2.1 (ea_new h c len sz) (ea_n h)) H1) : va_P w.1 ea_cl (ea_ws w.2.1 w.2.2.1 (ea_new h c len sz)) H1 := by
  rw [← ea_ws_push (h := h) (h' := ea_new h c len sz) rfl (fun b hb => ea_e_new b hb)]
  refine (hP.kept fun k q hq => o1 q.1 ((hP k q hq).lt)).app fun k q hq => ?_
  have hz : k < 1 := (List.getElem?_eq_some_iff.mp hq).1
  rw [show k = 0 by omega] at hq
  cases hq
  rw [hn]
  exact ha
theorem ea_newI {n : Int32} {N : Nat} (hd : decode M.2.1 pc = .ok (.newarray .int, 2)) (hw : Cond.arrayClass .int ∈ ea_tbl) (hn : ¬ n < 0) (hN : n.toNatClampNeg = N) (hbytes : N * 4 ≤ 536870912) (kk : ea_W M d h0 rv hE (pc + 2) lv (vR (some (ea_n h)) :: st) (ea_new h 20 N N)) : ea_W M d h0 rv hE pc lv (vI n :: st) h := by
  refine ⟨Nat.le_trans (Nat.le_succ _) kk.1, Nat.le_trans (Nat.le_add_right _ _) kk.2.1, kk.2.2.1, fun p l e s m args below meth c w H locs ls hC hA hKK hX h1 h2 h3 hP hS hl hq => ?_⟩
  have hK := hKK.1
  obtain ⟨z1, z2, z3, z4⟩ := ea_sizes h1 h2 kk.1 kk.2.1
  have hnn : w.2.2.1 (ea_n h) = H.size := by have := hA.2.2 (ea_n h) h1; omega
  refine va_newaK hC.1.1 hC.1.2.1 (atype := .int) (hC.1.2.2.2.2 _ hw) rfl hd rfl hn hN hbytes z1 z2 rfl fun H1 cA e1 y1 o1 hAr hNm => ?_
  have hcA : cA = w.2.1 20 := Option.some.inj (hNm.symm.trans (hK.2 0 _ rfl).2)
  subst hcA
  have hkk := kk.2.2.2 p l e s m args below meth c w H1 locs ls hC hA hKK hX (Nat.le_trans h1 (Nat.le_succ _)) (Nat.le_trans h2 (Nat.le_add_right _ _)) (by rw [y1]; show _ = _ + (ea_n h + 1); omega) (ea_pushed hnn hP o1 ?_) ⟨Nat.le_trans hS.1 (by omega), fun x q1 q2 => (o1 x (Nat.lt_of_lt_of_le q1 hS.1)).trans (hS.2.1 x q1 q2), hS.2.2⟩ hl hq
  · rw [z3, z4] at hkk
    have e9 : ea_v w.2.2.1 w.2.2.2 (vR (some (ea_n h))) = .ref H.size := by show Value.ref (w.2.2.1 (ea_n h)) = _; rw [hnn]
    have e8 : ea_st w.2.2.1 w.2.2.2 (vR (some (ea_n h)) :: st) = .ref H.size :: ea_st w.2.2.1 w.2.2.2 st := by rw [← e9]; rfl
    rw [e8] at hkk
    exact hkk
  · rw [ea_e_arr (t := 20) (by simp [ea_new, ea_c, ea_u1]) (by omega)]
    show H1[H.size]? = some (vp_cell _ (_, _))
    rw [e1]
    simp only [ea_new, ea_l, ea_i, ea_j, ea_u1, if_true]
    rfl
theorem ea_newZ {n : Int32} {N : Nat} (hd : decode M.2.1 pc = .ok (.newarray .boolean, 2)) (hw : Cond.arrayClass .boolean ∈ ea_tbl) (hn : ¬ n < 0) (hN : n.toNatClampNeg = N) (hbytes : N * 1 ≤ 536870912) (kk : ea_W M d h0 rv hE (pc + 2) lv (vR (some (ea_n h)) :: st) (ea_new h 21 N N)) : ea_W M d h0 rv hE pc lv (vI n :: st) h := by
  refine ⟨Nat.le_trans (Nat.le_succ _) kk.1, Nat.le_trans (Nat.le_add_right _ _) kk.2.1, kk.2.2.1, fun p l e s m args below meth c w H locs ls hC hA hKK hX h1 h2 h3 hP hS hl hq => ?_⟩
  have hK := hKK.1
  obtain ⟨z1, z2, z3, z4⟩ := ea_sizes h1 h2 kk.1 kk.2.1
  have hnn : w.2.2.1 (ea_n h) = H.size := by have := hA.2.2 (ea_n h) h1; omega
  refine va_newaK hC.1.1 hC.1.2.1 (atype := .boolean) (hC.1.2.2.2.2 _ hw) rfl hd rfl hn hN hbytes z1 z2 rfl fun H1 cA e1 y1 o1 hAr hNm => ?_
  have hcA : cA = w.2.1 21 := Option.some.inj (hNm.symm.trans (hK.2 1 _ rfl).2)
  subst hcA
  have hkk := kk.2.2.2 p l e s m args below meth c w H1 locs ls hC hA hKK hX (Nat.le_trans h1 (Nat.le_succ _)) (Nat.le_trans h2 (Nat.le_add_right _ _)) (by rw [y1]; show _ = _ + (ea_n h + 1); omega) (ea_pushed hnn hP o1 ?_) ⟨Nat.le_trans hS.1 (by omega), fun x q1 q2 => (o1 x (Nat.lt_of_lt_of_le q1 hS.1)).trans (hS.2.1 x q1 q2), hS.2.2⟩ hl hq
  · rw [z3, z4] at hkk
    have e9 : ea_v w.2.2.1 w.2.2.2 (vR (some (ea_n h))) = .ref H.size := by show Value.ref (w.2.2.1 (ea_n h)) = _; rw [hnn]
    have e8 : ea_st w.2.2.1 w.2.2.2 (vR (some (ea_n h)) :: st) = .ref H.size :: ea_st w.2.2.1 w.2.2.2 st := by rw [← e9]; rfl
    rw [e8] at hkk
    exact hkk
  · rw [ea_e_arr (t := 21) (by simp [ea_new, ea_c, ea_u1]) (by omega)]
    show H1[H.size]? = some (vp_cell _ (_, _))
    rw [e1]
    simp only [ea_new, ea_l, ea_i, ea_j, ea_u1, if_true]
    rfl
theorem ea_newJ {n : Int32} {N : Nat} (hd : decode M.2.1 pc = .ok (.newarray .long, 2)) (hw : Cond.arrayClass .long ∈ ea_tbl) (hn : ¬ n < 0) (hN : n.toNatClampNeg = N) (hbytes : N * 8 ≤ 536870912) (kk : ea_W M d h0 rv hE (pc + 2) lv (vR (some (ea_n h)) :: st) (ea_new h 22 N N)) : ea_W M d h0 rv hE pc lv (vI n :: st) h := by
  refine ⟨Nat.le_trans (Nat.le_succ _) kk.1, Nat.le_trans (Nat.le_add_right _ _) kk.2.1, kk.2.2.1, fun p l e s m args below meth c w H locs ls hC hA hKK hX h1 h2 h3 hP hS hl hq => ?_⟩
  have hK := hKK.1
  obtain ⟨z1, z2, z3, z4⟩ := ea_sizes h1 h2 kk.1 kk.2.1
  have hnn : w.2.2.1 (ea_n h) = H.size := by have := hA.2.2 (ea_n h) h1; omega
  refine va_newaK hC.1.1 hC.1.2.1 (atype := .long) (hC.1.2.2.2.2 _ hw) rfl hd rfl hn hN hbytes z1 z2 rfl fun H1 cA e1 y1 o1 hAr hNm => ?_
  have hcA : cA = w.2.1 22 := Option.some.inj (hNm.symm.trans (hK.2 2 _ rfl).2)
  subst hcA
  have hkk := kk.2.2.2 p l e s m args below meth c w H1 locs ls hC hA hKK hX (Nat.le_trans h1 (Nat.le_succ _)) (Nat.le_trans h2 (Nat.le_add_right _ _)) (by rw [y1]; show _ = _ + (ea_n h + 1); omega) (ea_pushed hnn hP o1 ?_) ⟨Nat.le_trans hS.1 (by omega), fun x q1 q2 => (o1 x (Nat.lt_of_lt_of_le q1 hS.1)).trans (hS.2.1 x q1 q2), hS.2.2⟩ hl hq
  · rw [z3, z4] at hkk
    have e9 : ea_v w.2.2.1 w.2.2.2 (vR (some (ea_n h))) = .ref H.size := by show Value.ref (w.2.2.1 (ea_n h)) = _; rw [hnn]
    have e8 : ea_st w.2.2.1 w.2.2.2 (vR (some (ea_n h)) :: st) = .ref H.size :: ea_st w.2.2.1 w.2.2.2 st := by rw [← e9]; rfl
    rw [e8] at hkk
    exact hkk
  · rw [ea_e_arr (t := 22) (by simp [ea_new, ea_c, ea_u1]) (by omega)]
    show H1[H.size]? = some (vp_cell _ (_, _))
    rw [e1]
    simp only [ea_new, ea_l, ea_i, ea_j, ea_u1, if_true]
    rfl
theorem ea_newR23 {n : Int32} {N idx : Nat} (hd : decode M.2.1 pc = .ok (.anewarray idx, 3)) (hcl : Cond.classLink M.1.cls idx RX5 ∈ ea_tbl) (hov : Cond.arrayOver (.object RX5) ∈ ea_nl) (hn : ¬ n < 0) (hN : n.toNatClampNeg = N) (hbytes : N * 4 ≤ 536870912) (kk : ea_W M d h0 rv hE (pc + 3) lv (vR (some (ea_n h)) :: st) (ea_new h 23 N N)) : ea_W M d h0 rv hE pc lv (vI n :: st) h := by
  refine ⟨Nat.le_trans (Nat.le_succ _) kk.1, Nat.le_trans (Nat.le_add_right _ _) kk.2.1, kk.2.2.1, fun p l e s m args below meth c w H locs ls hC hA hKK hX h1 h2 h3 hP hS hl hq => ?_⟩
  have hK := hKK.1
  obtain ⟨z1, z2, z3, z4⟩ := ea_sizes h1 h2 kk.1 kk.2.1
  have hnn : w.2.2.1 (ea_n h) = H.size := by have := hA.2.2 (ea_n h) h1; omega
  subst hN
  refine W.anew hC.1.1 hC.1.2.1 hC.1.2.2.2.1 (hC.1.2.2.2.2 _ hcl) (va_AO.use (hKK.2.1 _ hov)) rfl hd rfl hn hbytes z1 z2 fun cA kA comp f1 f2 f3 f4 => ?_
  generalize hH1 : H.push ({ cls := cA, slots := Array.replicate n.toNatClampNeg .null, vm := .none } : Cell) = H1
  have y1 : H1.size = H.size + 1 := by rw [← hH1, Array.size_push]
  have e1 : H1[H.size]? = some (arrV cA n.toNatClampNeg (fun _ => .null)) := by rw [← hH1, Array.getElem?_push_size, ← arrV_new]
  have o1 : ∀ q : Nat, q < H.size → H1[q]? = H[q]? := fun q hq => by rw [← hH1, Array.getElem?_push, if_neg (Nat.ne_of_lt hq)]
  have hcA : cA = w.2.1 23 := by
    obtain ⟨kA', comp', -, -, -, hh⟩ := (hK.2 3 _ rfl).2
    exact Option.some.inj (f1.symm.trans hh)
  subst hcA
  have hkk := kk.2.2.2 p l e s m args below meth c w H1 locs ls hC hA hKK hX (Nat.le_trans h1 (Nat.le_succ _)) (Nat.le_trans h2 (Nat.le_add_right _ _)) (by rw [y1]; show _ = _ + (ea_n h + 1); omega) (ea_pushed hnn hP o1 ?_) ⟨Nat.le_trans hS.1 (by omega), fun x q1 q2 => (o1 x (Nat.lt_of_lt_of_le q1 hS.1)).trans (hS.2.1 x q1 q2), hS.2.2⟩ hl hq
  · rw [z3, z4] at hkk
    have e8 : ea_st w.2.2.1 w.2.2.2 (vR (some (ea_n h)) :: st) = .ref H.size :: ea_st w.2.2.1 w.2.2.2 st := by
      show Value.ref (w.2.2.1 (ea_n h)) :: _ = _
      rw [hnn]
    rw [e8] at hkk
    exact hkk
  · rw [ea_e_arr (t := 23) (by simp [ea_new, ea_c, ea_u1]) (by omega)]
    show H1[H.size]? = some (vp_cell _ (_, _))
    rw [e1]
    simp only [ea_new, ea_l, ea_r, ea_u1, if_true]
    rfl
theorem ea_newR24 {n : Int32} {N idx : Nat} (hd : decode M.2.1 pc = .ok (.anewarray idx, 3)) (hcl : Cond.classLink M.1.cls idx RX2 ∈ ea_tbl) (hov : Cond.arrayOver (.object RX2) ∈ ea_nl) (hn : ¬ n < 0) (hN : n.toNatClampNeg = N) (hbytes : N * 4 ≤ 536870912) (kk : ea_W M d h0 rv hE (pc + 3) lv (vR (some (ea_n h)) :: st) (ea_new h 24 N N)) : ea_W M d h0 rv hE pc lv (vI n :: st) h := by
  refine ⟨Nat.le_trans (Nat.le_succ _) kk.1, Nat.le_trans (Nat.le_add_right _ _) kk.2.1, kk.2.2.1, fun p l e s m args below meth c w H locs ls hC hA hKK hX h1 h2 h3 hP hS hl hq => ?_⟩
  have hK := hKK.1
  obtain ⟨z1, z2, z3, z4⟩ := ea_sizes h1 h2 kk.1 kk.2.1
  have hnn : w.2.2.1 (ea_n h) = H.size := by have := hA.2.2 (ea_n h) h1; omega
  subst hN
  refine W.anew hC.1.1 hC.1.2.1 hC.1.2.2.2.1 (hC.1.2.2.2.2 _ hcl) (va_AO.use (hKK.2.1 _ hov)) rfl hd rfl hn hbytes z1 z2 fun cA kA comp f1 f2 f3 f4 => ?_
  generalize hH1 : H.push ({ cls := cA, slots := Array.replicate n.toNatClampNeg .null, vm := .none } : Cell) = H1
  have y1 : H1.size = H.size + 1 := by rw [← hH1, Array.size_push]
  have e1 : H1[H.size]? = some (arrV cA n.toNatClampNeg (fun _ => .null)) := by rw [← hH1, Array.getElem?_push_size, ← arrV_new]
  have o1 : ∀ q : Nat, q < H.size → H1[q]? = H[q]? := fun q hq => by rw [← hH1, Array.getElem?_push, if_neg (Nat.ne_of_lt hq)]
  have hcA : cA = w.2.1 24 := by
    obtain ⟨kA', comp', -, -, -, hh⟩ := (hK.2 4 _ rfl).2
    exact Option.some.inj (f1.symm.trans hh)
  subst hcA
  have hkk := kk.2.2.2 p l e s m args below meth c w H1 locs ls hC hA hKK hX (Nat.le_trans h1 (Nat.le_succ _)) (Nat.le_trans h2 (Nat.le_add_right _ _)) (by rw [y1]; show _ = _ + (ea_n h + 1); omega) (ea_pushed hnn hP o1 ?_) ⟨Nat.le_trans hS.1 (by omega), fun x q1 q2 => (o1 x (Nat.lt_of_lt_of_le q1 hS.1)).trans (hS.2.1 x q1 q2), hS.2.2⟩ hl hq
  · rw [z3, z4] at hkk
    have e8 : ea_st w.2.2.1 w.2.2.2 (vR (some (ea_n h)) :: st) = .ref H.size :: ea_st w.2.2.1 w.2.2.2 st := by
      show Value.ref (w.2.2.1 (ea_n h)) :: _ = _
      rw [hnn]
    rw [e8] at hkk
    exact hkk
  · rw [ea_e_arr (t := 24) (by simp [ea_new, ea_c, ea_u1]) (by omega)]
    show H1[H.size]? = some (vp_cell _ (_, _))
    rw [e1]
    simp only [ea_new, ea_l, ea_r, ea_u1, if_true]
    rfl
theorem ea_newR25 {n : Int32} {N idx : Nat} (hd : decode M.2.1 pc = .ok (.anewarray idx, 3)) (hcl : Cond.classLink M.1.cls idx RX0 ∈ ea_tbl) (hov : Cond.arrayOver (.object RX0) ∈ ea_nl) (hn : ¬ n < 0) (hN : n.toNatClampNeg = N) (hbytes : N * 4 ≤ 536870912) (kk : ea_W M d h0 rv hE (pc + 3) lv (vR (some (ea_n h)) :: st) (ea_new h 25 N N)) : ea_W M d h0 rv hE pc lv (vI n :: st) h := by
  refine ⟨Nat.le_trans (Nat.le_succ _) kk.1, Nat.le_trans (Nat.le_add_right _ _) kk.2.1, kk.2.2.1, fun p l e s m args below meth c w H locs ls hC hA hKK hX h1 h2 h3 hP hS hl hq => ?_⟩
  have hK := hKK.1
  obtain ⟨z1, z2, z3, z4⟩ := ea_sizes h1 h2 kk.1 kk.2.1
  have hnn : w.2.2.1 (ea_n h) = H.size := by have := hA.2.2 (ea_n h) h1; omega
  subst hN
  refine W.anew hC.1.1 hC.1.2.1 hC.1.2.2.2.1 (hC.1.2.2.2.2 _ hcl) (va_AO.use (hKK.2.1 _ hov)) rfl hd rfl hn hbytes z1 z2 fun cA kA comp f1 f2 f3 f4 => ?_
  generalize hH1 : H.push ({ cls := cA, slots := Array.replicate n.toNatClampNeg .null, vm := .none } : Cell) = H1
  have y1 : H1.size = H.size + 1 := by rw [← hH1, Array.size_push]
  have e1 : H1[H.size]? = some (arrV cA n.toNatClampNeg (fun _ => .null)) := by rw [← hH1, Array.getElem?_push_size, ← arrV_new]
  have o1 : ∀ q : Nat, q < H.size → H1[q]? = H[q]? := fun q hq => by rw [← hH1, Array.getElem?_push, if_neg (Nat.ne_of_lt hq)]
  have hcA : cA = w.2.1 25 := by
    obtain ⟨kA', comp', -, -, -, hh⟩ := (hK.2 5 _ rfl).2
    exact Option.some.inj (f1.symm.trans hh)
  subst hcA
  have hkk := kk.2.2.2 p l e s m args below meth c w H1 locs ls hC hA hKK hX (Nat.le_trans h1 (Nat.le_succ _)) (Nat.le_trans h2 (Nat.le_add_right _ _)) (by rw [y1]; show _ = _ + (ea_n h + 1); omega) (ea_pushed hnn hP o1 ?_) ⟨Nat.le_trans hS.1 (by omega), fun x q1 q2 => (o1 x (Nat.lt_of_lt_of_le q1 hS.1)).trans (hS.2.1 x q1 q2), hS.2.2⟩ hl hq
  · rw [z3, z4] at hkk
    have e8 : ea_st w.2.2.1 w.2.2.2 (vR (some (ea_n h)) :: st) = .ref H.size :: ea_st w.2.2.1 w.2.2.2 st := by
      show Value.ref (w.2.2.1 (ea_n h)) :: _ = _
      rw [hnn]
    rw [e8] at hkk
    exact hkk
  · rw [ea_e_arr (t := 25) (by simp [ea_new, ea_c, ea_u1]) (by omega)]
    show H1[H.size]? = some (vp_cell _ (_, _))
    rw [e1]
    simp only [ea_new, ea_l, ea_r, ea_u1, if_true]
    rfl
theorem ea_newO {ci idx N : Nat} {C : String} {T : u_T} (hd : decode M.2.1 pc = .ok (.new idx, 3)) (hc : ea_Cls ci C T N) (hcl : Cond.classLink M.1.cls idx C ∈ ea_tbl) (hins : Cond.instantiable C N ∈ ea_tbl) (hini : Cond.initialized C ∈ ea_tbl) (kk : ea_W M d h0 rv hE (pc + 3) lv (vR (some (ea_n h)) :: st) (ea_new h ci 0 N)) : ea_W M d h0 rv hE pc lv st h := by
  refine ⟨Nat.le_trans (Nat.le_succ _) kk.1, Nat.le_trans (Nat.le_add_right _ _) kk.2.1, kk.2.2.1, fun p l e s m args below meth c w H locs ls hC hA hKK hX h1 h2 h3 hP hS hl hq => ?_⟩
  have hK := hKK.1
  obtain ⟨z1, z2, z3, z4⟩ := ea_sizes h1 h2 kk.1 kk.2.1
  have hnn : w.2.2.1 (ea_n h) = H.size := by have := hA.2.2 (ea_n h) h1; omega
  have hKn := hK.1 ci _ hc.1
  refine W.newcK hC.1.1 hC.1.2.1 hC.1.2.2.2.1 (hC.1.2.2.2.2 _ hcl) (hC.1.2.2.2.2 _ hins) (hC.1.2.2.2.2 _ hini) rfl hd z1 z2 hKn.2.1 rfl fun H1 kC hkC e1 y1 o1 => ?_
  have hkk := kk.2.2.2 p l e s m args below meth c w H1 locs ls hC hA hKK hX (Nat.le_trans h1 (Nat.le_succ _)) (Nat.le_trans h2 (Nat.le_add_right _ _)) (by rw [y1]; show _ = _ + (ea_n h + 1); omega) (ea_pushed hnn hP o1 ?_) ⟨Nat.le_trans hS.1 (by omega), fun x q1 q2 => (o1 x (Nat.lt_of_lt_of_le q1 hS.1)).trans (hS.2.1 x q1 q2), hS.2.2⟩ hl hq
  · rw [z3, z4] at hkk
    have e8 : ea_st w.2.2.1 w.2.2.2 (vR (some (ea_n h)) :: st) = .ref H.size :: ea_st w.2.2.1 w.2.2.2 st := by
      show Value.ref (w.2.2.1 (ea_n h)) :: _ = _
      rw [hnn]
    rw [e8] at hkk
    exact hkk
  · rw [ea_e_obj (ci := ci) (by simp [ea_new, ea_c, ea_u1]) hc.2.1, hc.2.2.1]
    refine ⟨_, hc.1, (u_born (ea_ty ci) hC.1.2.2.2.2 hc.2.2.2.1 hKn hkC e1 hc.2.2.2.2.1).to fun j hj => ?_⟩
    have hg : ((List.range N).map (ea_fv w.2.2.1 (ea_new h ci 0 N) ci (ea_n h))).getD j .null = ea_fv w.2.2.1 (ea_new h ci 0 N) ci (ea_n h) j := by
      rw [List.getD_eq_getElem?_getD, List.getElem?_map, List.getElem?_range hj]
      rfl
    show defaultValue (ea_ty ci j) = List.getD _ _ _
    rw [hg]
    unfold ea_fv ea_fk
    simp only [ea_new, ea_i, ea_j, ea_r, ea_u1, if_true]
    have hok := hc.2.2.2.2.2.2 j hj
    generalize ea_ty ci j = t at hok
    cases t <;> first | rfl | cases hok
theorem ea_sld {i : Int32} (hd : decode M.2.1 pc = .ok (.iaload, 1)) (hin : vp_in i (ea_q h).1) (kk : ea_W M d h0 rv hE (pc + 1) lv (vI ((ea_q h).2 i.toNatClampNeg) :: st) h) : ea_W M d h0 rv hE pc lv (vI i :: vO 0 :: st) h := by
  refine ⟨kk.1, kk.2.1, kk.2.2.1, fun p l e s m args below meth c w H locs ls hC hA hKK hX h1 h2 h3 hP hS hl hq => ?_⟩
  have hK := hKK.1
  have hkk := kk.2.2.2 p l e s m args below meth c w H locs ls hC hA hKK hX h1 h2 h3 hP hS hl hq
  rw [hq] at hkk hin
  exact va_sld hC.1.1 hC.1.2.1 hX.1 hX.2.1 hX.2.2.1 hS hin hd hkk
theorem ea_slen (hd : decode M.2.1 pc = .ok (.arraylength, 1)) (kk : ea_W M d h0 rv hE (pc + 1) lv (vI (Int32.ofNat (ea_q h).1) :: st) h) : ea_W M d h0 rv hE pc lv (vO 0 :: st) h := by
  refine ⟨kk.1, kk.2.1, kk.2.2.1, fun p l e s m args below meth c w H locs ls hC hA hKK hX h1 h2 h3 hP hS hl hq => ?_⟩
  have hK := hKK.1
  have hkk := kk.2.2.2 p l e s m args below meth c w H locs ls hC hA hKK hX h1 h2 h3 hP hS hl hq
  rw [hq] at hkk
  exact va_slen hC.1.1 hC.1.2.1 hX.1 hX.2.1 hX.2.2.1 hS hd hkk
theorem ea_ireturn {x : Int32} {ty : FieldType} (hd : decode M.2.1 pc = .ok (.ireturn, 1)) (hr : M.2.2.2 = some ty) (hn : narrow ty (.int x) = .int x) : ea_W M d h0 (some (vI x)) h pc lv [vI x] h :=
  ⟨Nat.le_refl _, Nat.le_refl _, rfl, fun p l e s m args below meth c w H locs ls hC hA hKK hX h1 h2 h3 hP hS hl hq => W.zret hC.1.1 hC.1.2.1 (hC.2.1.trans hr) hn (fun t ht hW => ⟨rfl, by rw [ht]; exact h3, by rw [ht]; exact hP, hS.F ht⟩) hS.2.2 hd hC.2.2.1⟩
theorem ea_lreturn {x : Int64} (hd : decode M.2.1 pc = .ok (.lreturn, 1)) (hr : M.2.2.2 = some .long) : ea_W M d h0 (some (vJ x)) h pc lv [vJ x] h :=
  ⟨Nat.le_refl _, Nat.le_refl _, rfl, fun p l e s m args below meth c w H locs ls hC hA hKK hX h1 h2 h3 hP hS hl hq => W.lret hC.1.1 hC.1.2.1 (hC.2.1.trans hr) (fun t ht hW => ⟨rfl, by rw [ht]; exact h3, by rw [ht]; exact hP, hS.F ht⟩) hS.2.2 hd hC.2.2.1⟩
theorem ea_areturn {r : Option Nat} {ty : FieldType} (hd : decode M.2.1 pc = .ok (.areturn, 1)) (hr : M.2.2.2 = some ty) (hty : (∃ n, ty = .object n) ∨ ∃ t, ty = .array t) : ea_W M d h0 (some (vR r)) h pc lv [vR r] h :=
  ⟨Nat.le_refl _, Nat.le_refl _, rfl, fun p l e s m args below meth c w H locs ls hC hA hKK hX h1 h2 h3 hP hS hl hq => W.aret hC.1.1 hC.1.2.1 (hC.2.1.trans hr) hty (va_rf_or _) (fun t ht hW => ⟨rfl, by rw [ht]; exact h3, by rw [ht]; exact hP, hS.F ht⟩) hS.2.2 hd hC.2.2.1⟩
theorem ea_return (hd : decode M.2.1 pc = .ok (.return_, 1)) (hr : M.2.2.2 = none) : ea_W M d h0 none h pc lv [] h :=
  ⟨Nat.le_refl _, Nat.le_refl _, rfl, fun p l e s m args below meth c w H locs ls hC hA hKK hX h1 h2 h3 hP hS hl hq => W.vret hC.1.1 hC.1.2.1 (hC.2.1.trans hr) (fun t ht hW => ⟨rfl, by rw [ht]; exact h3, by rw [ht]; exact hP, hS.F ht⟩) hS.2.2 hd hC.2.2.1⟩
theorem ea_tswOut {dflt lo hi : Int} {offs : Array Int} {len : Nat} {x : Int32} {tgt : Nat} (hd : decode M.2.1 pc = .ok (.tableswitch dflt lo hi offs, len)) (hx : x.toInt < lo ∨ hi < x.toInt) (ht : (pc : Int) + dflt = (tgt : Int)) (k : ea_W M d h0 rv hE tgt lv st h) : ea_W M d h0 rv hE pc lv (vI x :: st) h := ea_go (fun ad ro hC hl kk => lv_tableOut hC.1.1 hC.1.2.1 hd hx ht kk) k
theorem ea_tswIn {dflt lo hi : Int} {offs : Array Int} {len : Nat} {x : Int32} {off : Int} {tgt : Nat} (hd : decode M.2.1 pc = .ok (.tableswitch dflt lo hi offs, len)) (hx1 : ¬ x.toInt < lo) (hx2 : ¬ hi < x.toInt) (ho : offs[(x.toInt - lo).toNat]? = some off) (ht : (pc : Int) + off = (tgt : Int)) (k : ea_W M d h0 rv hE tgt lv st h) : ea_W M d h0 rv hE pc lv (vI x :: st) h := ea_go (fun ad ro hC hl kk => lv_tableIn hC.1.1 hC.1.2.1 hd hx1 hx2 ho ht kk) k
theorem ea_lsw {dflt : Int} {ps : Array (Int × Int)} {len : Nat} {x : Int32} {off : Int} {tgt : Nat} (hd : decode M.2.1 pc = .ok (.lookupswitch dflt ps, len)) (hp : (ps.toList.zip (ps.toList.drop 1)).all (fun (a, next) => a.1 < next.1) = true) (ho : Op.lookupswitch.offset ps.toList dflt x.toInt = off) (ht : (pc : Int) + off = (tgt : Int)) (k : ea_W M d h0 rv hE tgt lv st h) : ea_W M d h0 rv hE pc lv (vI x :: st) h := ea_go (fun ad ro hC hl kk => lv_lookup hC.1.1 hC.1.2.1 hd hp ho ht kk) k
end EB
