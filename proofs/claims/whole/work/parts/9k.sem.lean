/-! calls: way -/
theorem call_way {n : Nat} {T : Nat → Nat → Nat → Nat} {h : ea_H} (hs : ShC h) (bs : SBas h n) (b : STb h T) (wc : SWyC h T) (wm : SWyM h T n) (x1 x2 x3 x4 : Int32) : tw (qX11_way x1 x2 x3 x4 h) (qX12_way x1 x2 x3 x4) fun h' => fq [(13, 17), (336, 346)] [((326, 326), 12, 13)] h h' ∧ SWyC h' T ∧ SWyM h' T n := by
  obtain ⟨b1, b2, b3, b4, b5, b6⟩ := bs
  obtain ⟨ok, cC, cM⟩ := b
  obtain ⟨L, hL⟩ := t_exists T
  obtain ⟨y, y1, f, w, e⟩ := c_way ok x1 x2 x3 x4 hs cC wc hL (by omega) (by omega)
  have f1 : fq [(13, 17)] [] h y.2 := f.up rfl
  have hq : hiq h y.2 := f1.hiq rfl
  have e1 : hI y.2 326 1 = n := (hq 326 1 (by decide)).trans b5
  have e0 : hI y.2 326 0 = hI h 326 0 := hq 326 0 (by decide)
  have wm1 : SWyM y.2 T n := SWyM.hi b6 hq wm
  obtain ⟨z, z1, f2, w2, e2⟩ := m_way ok hL x1 x2 x3 x4 b6 (MTab.hi hq cM) e1 (wm1.elim Or.inl fun q => Or.inr ⟨q.1, q.2 L hL⟩) (by omega)
  refine ⟨y, y1, z, z1, n_eq.mpr ?_, (f1.up rfl rfl).tr (f2.up rfl rfl), SWyC.lo (f2.loq rfl) w, ?_⟩
  · rw [e, e2, e1, e0, b1, b4]
  · rcases w2 with w2 | ⟨w2, w3⟩
    · exact Or.inl w2
    · refine Or.inr ⟨w2, fun L3 hL3 => ?_⟩
      rw [t_uniq hL3 hL]
      exact w3
