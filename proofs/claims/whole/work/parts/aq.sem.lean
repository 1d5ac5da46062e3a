/-! the law's loop, but for act -/
theorem sat_tw {α β : Type} {h : ea_H} {A : Option (α × ea_H)} {B : ea_H → Option (α × ea_H)} {R : ea_H → Prop} (c : tw A B R) (k : kp (ea_core h) A) {f : α × ea_H → Option β} {P : β → Prop} (H : ∀ w : α × ea_H, ea_q w.2 = ea_q h → sat (B w.2) (fun z => w.1 = z.1 ∧ R z.2) → sat (f w) P) : sat (Option.bind A f) P := by
  obtain ⟨w, e, hw⟩ := c
  rw [e]
  exact H w (congrArg (fun c => c.1.2) (k w e)) hw
theorem lgc_self (x : Int64) : lg_cmp x x = 0 := by
  unfold lg_cmp
  simp
theorem law_loop (act : ∀ h, SIM h → ∀ x1 : Int32, tw (qX11_act x1 h) (qX12_act x1) (SIMk h)) {q : Nat × (Nat → Int32)} (hq : q.1 ≤ 2147483647) : ∀ (j e : Nat) (x3 : Int32) (h : ea_H), ea_q h = q → SIM h → x3.toInt = e → q.1 ≤ e + 7 * j → sat (qL_law_18 x3 h) fun y => y.1 = 1 := by
  have v7 : ((Int32.ofNat q.1) - (7 : Int32)).toInt = (q.1 : Int) - 7 := by
    rw [n_sub, Int32.toInt_ofNat_of_lt (by omega), l_7, n_bm (by omega) (by omega)]
  have over : ∀ (e : Nat) (x3 : Int32) (h : ea_H), ea_q h = q → x3.toInt = e → (q.1 : Int) - 7 < e → sat (qL_law_18 x3 h) fun y => y.1 = 1 := by
    intro e x3 h eq e3 hlt
    refine uqL_law_18 ?_
    unfold BL_law_18
    rw [eq]
    exact sat_pos (by rw [n_lt, v7, e3]; exact hlt) (sat_ret rfl)
  intro j
  induction j with
  | zero =>
    intro e x3 h eq s e3 he
    exact over e x3 h eq e3 (by omega)
  | succ j ih =>
    intro e x3 h eq s e3 he
    by_cases c : (q.1 : Int) - 7 < e
    · exact over e x3 h eq e3 c
    have nxt : ∀ h', SIMk h h' → sat (qL_law_18 (x3 + (7 : Int32)) h') fun y => y.1 = 1 := fun h' k => by
      refine ih (e + 7) (x3 + (7 : Int32)) h' ((congrArg (fun c => c.1.2) k.2).trans eq) k.1 ?_ (by omega)
      rw [n_add, e3, l_7, n_bm (by omega) (by omega)]
      omega
    have g0 : vp_in x3 q.1 := vp80 e3 (by omega)
    have g1 : vp_in (x3 + (1 : Int32)) q.1 := vp80 (n := e + 1) (by rw [n_add, e3, l_1, n_bm (by omega) (by omega)]; omega) (by omega)
    have g2 : vp_in (x3 + (2 : Int32)) q.1 := vp80 (n := e + 2) (by rw [n_add, e3, l_2, n_bm (by omega) (by omega)]; omega) (by omega)
    have g3 : vp_in (x3 + (3 : Int32)) q.1 := vp80 (n := e + 3) (by rw [n_add, e3, l_3, n_bm (by omega) (by omega)]; omega) (by omega)
    have g4 : vp_in (x3 + (4 : Int32)) q.1 := vp80 (n := e + 4) (by rw [n_add, e3, l_4, n_bm (by omega) (by omega)]; omega) (by omega)
    have g5 : vp_in (x3 + (5 : Int32)) q.1 := vp80 (n := e + 5) (by rw [n_add, e3, l_5, n_bm (by omega) (by omega)]; omega) (by omega)
    have g6 : vp_in (x3 + (6 : Int32)) q.1 := vp80 (n := e + 6) (by rw [n_add, e3, l_6, n_bm (by omega) (by omega)]; omega) (by omega)
    refine uqL_law_18 ?_
    unfold BL_law_18
    rw [eq]
    refine sat_neg (by rw [n_lt, v7, e3]; exact c) (sat_gd g0 ?_)
    refine sat_ite (fun _ => ?_) fun _ => ?_
    · refine sat_tw (sim_town s) (kpX11_town _) fun w ew hw => ?_
      exact (sat_bind hw fun z hz => sat_pos hz.1 (nxt z.2 hz.2))
    refine sat_ite (fun _ => ?_) fun _ => ?_
    · refine (sat_gd g1 (sat_gd g2 (sat_gd g3 (sat_tw (sim_road s _ _ _) (kpX11_road _ _ _ _) fun w ew hw => ?_))))
      rw [ew, eq]
      exact (sat_gd g1 (sat_gd g2 (sat_gd g3 (sat_bind hw fun z hz => sat_pos hz.1 (nxt z.2 hz.2)))))
    refine sat_ite (fun _ => ?_) fun _ => ?_
    · refine (sat_gd g1 (sat_gd g2 (sat_tw (sim_miles s _ _) (kpX11_miles _ _ _) fun w ew hw => ?_)))
      rw [ew, eq]
      exact (sat_gd g1 (sat_gd g2 (sat_bind hw fun z hz => sat_pos hz.1 (nxt z.2 hz.2))))
    refine sat_ite (fun _ => ?_) fun _ => ?_
    · refine sat_tw (sim_train s) (kpX11_train _) fun w ew hw => ?_
      exact (sat_bind hw fun z hz => sat_pos hz.1 (nxt z.2 hz.2))
    refine sat_ite (fun _ => ?_) fun _ => ?_
    · refine (sat_gd g1 (sat_gd g2 (sat_gd g3 (sat_gd g4 (sat_gd g5 (sat_ite (fun d => ?_) fun d => ?_))))))
      · refine sat_tw (sim_stop s _ _ _ _ 0 (Or.inl rfl)) (kpX11_stop _ _ _ _ _ _) fun w ew hw => ?_
        rw [ew, eq]
        exact (sat_gd g1 (sat_gd g2 (sat_gd g3 (sat_gd g4 (sat_gd g5 (sat_pos d (sat_bind hw fun z hz => sat_pos hz.1 (nxt z.2 hz.2))))))))
      · refine sat_tw (sim_stop s _ _ _ _ 1 (Or.inr rfl)) (kpX11_stop _ _ _ _ _ _) fun w ew hw => ?_
        rw [ew, eq]
        exact (sat_gd g1 (sat_gd g2 (sat_gd g3 (sat_gd g4 (sat_gd g5 (sat_neg d (sat_bind hw fun z hz => sat_pos hz.1 (nxt z.2 hz.2))))))))
    refine sat_ite (fun _ => ?_) fun _ => ?_
    · refine (sat_gd g1 (sat_gd g2 (sat_gd g3 (sat_tw (sim_stopOf s _ _ _) (kpX11_stopOf _ _ _ _) fun w ew hw => ?_))))
      rw [ew, eq]
      exact (sat_gd g1 (sat_gd g2 (sat_gd g3 (sat_bind hw fun z hz => sat_pos hz.1 (nxt z.2 hz.2)))))
    refine sat_ite (fun _ => ?_) fun _ => ?_
    · refine (sat_gd g1 (sat_gd g2 (sat_gd g3 (sat_tw (sim_late s _ _ _) (kpX11_late _ _ _ _) fun w ew hw => ?_))))
      rw [ew, eq]
      exact (sat_gd g1 (sat_gd g2 (sat_gd g3 (sat_bind hw fun z hz => sat_pos hz.1 (nxt z.2 hz.2)))))
    refine sat_ite (fun _ => ?_) fun _ => ?_
    · refine (sat_gd g1 (sat_gd g2 (sat_gd g3 (sat_tw (sim_miss s _ _ _) (kpX11_miss _ _ _ _) fun w ew hw => ?_))))
      rw [ew, eq]
      exact (sat_gd g1 (sat_gd g2 (sat_gd g3 (sat_bind hw fun z hz => sat_pos hz.1 (nxt z.2 hz.2)))))
    refine sat_ite (fun _ => ?_) fun _ => ?_
    · refine (sat_gd g1 (sat_tw (sim_minutes s _) (kpX11_minutes _ _) fun w ew hw => ?_))
      rw [ew, eq]
      exact (sat_gd g1 (sat_bind hw fun z hz => sat_pos hz.1 (nxt z.2 hz.2)))
    refine sat_ite (fun _ => ?_) fun _ => ?_
    · refine (sat_gd g1 (sat_tw (sim_look s _) (kpX11_look _ _) fun w ew hw => ?_))
      rw [ew, eq]
      exact (sat_gd g1 (sat_bind hw fun z hz => sat_pos hz.1 (nxt z.2 hz.2)))
    refine sat_ite (fun _ => ?_) fun _ => ?_
    · refine (sat_gd g1 (sat_gd g2 (sat_gd g3 (sat_gd g4 (sat_gd g5 (sat_tw (sim_feed s _ _ _ _ _) (kpX11_feed _ _ _ _ _ _) fun w ew hw => ?_))))))
      rw [ew, eq]
      exact (sat_gd g1 (sat_gd g2 (sat_gd g3 (sat_gd g4 (sat_gd g5 (sat_bind hw fun z hz => sat_pos hz.1 (nxt z.2 hz.2)))))))
    refine sat_ite (fun _ => ?_) fun _ => ?_
    · refine (sat_gd g1 (sat_tw (sim_end s _) (kpX11_end _ _) fun w ew hw => ?_))
      rw [ew, eq]
      exact (sat_gd g1 (sat_bind hw fun z hz => sat_pos hz.1 (nxt z.2 hz.2)))
    refine sat_ite (fun _ => ?_) fun _ => ?_
    · refine (sat_gd g1 (sat_tw (act h s _) (kpX11_act _ _) fun w ew hw => ?_))
      rw [ew, eq]
      exact (sat_gd g1 (sat_bind hw fun z hz => sat_pos hz.1 (nxt z.2 hz.2)))
    refine sat_ite (fun _ => ?_) fun _ => ?_
    · refine (sat_gd g1 (sat_tw (sim_fault s _) (kpX11_fault _ _) fun w ew hw => ?_))
      rw [ew, eq]
      exact (sat_gd g1 (sat_bind hw fun z hz => sat_pos hz.1 (nxt z.2 hz.2)))
    refine sat_ite (fun _ => ?_) fun _ => ?_
    · refine (sat_gd g1 (sat_gd g2 (sat_tw (sim_inForce s _ _) (kpX11_inForce _ _ _) fun w ew hw => ?_)))
      rw [ew, eq]
      exact (sat_gd g1 (sat_gd g2 (sat_bind hw fun z hz => sat_pos hz.1 (nxt z.2 hz.2))))
    refine sat_ite (fun _ => ?_) fun _ => ?_
    · refine (sat_gd g1 (sat_gd g2 (sat_gd g3 (sat_gd g4 (sat_gd g5 (sat_gd g6 (sat_tw (sim_post s _ _ _ _ _ _) (kpX11_post _ _ _ _ _ _ _) fun w ew hw => ?_)))))))
      rw [ew, eq]
      exact (sat_gd g1 (sat_gd g2 (sat_gd g3 (sat_gd g4 (sat_gd g5 (sat_gd g6 (sat_bind hw fun z hz => sat_pos hz.1 (nxt z.2 hz.2))))))))
    refine sat_ite (fun _ => ?_) fun _ => ?_
    · refine (sat_gd g1 (sat_gd g2 (sat_tw (sim_of s _ _) (kpX11_of _ _ _) fun w ew hw => ?_)))
      rw [ew, eq]
      exact (sat_gd g1 (sat_gd g2 (sat_bind hw fun z hz => sat_pos hz.1 (nxt z.2 hz.2))))
    refine sat_ite (fun _ => ?_) fun _ => ?_
    · refine (sat_gd g1 (sat_gd g2 (sat_tw (sim_charge s _ _) (kpX11_charge _ _ _) fun w ew hw => ?_)))
      rw [ew, eq]
      exact (sat_gd g1 (sat_gd g2 (sat_bind hw fun z hz => sat_pos hz.1 (nxt z.2 hz.2))))
    refine sat_ite (fun _ => ?_) fun _ => ?_
    · refine (sat_gd g1 (sat_gd g2 (sat_gd g3 (sat_gd g4 (sat_tw (sim_way s _ _ _ _) (kpX11_way _ _ _ _ _) fun w ew hw => ?_)))))
      rw [ew, eq]
      exact (sat_gd g1 (sat_gd g2 (sat_gd g3 (sat_gd g4 (sat_bind hw fun z hz => sat_pos hz.1 (nxt z.2 hz.2))))))
    refine sat_ite (fun _ => ?_) fun _ => ?_
    · refine (sat_gd g1 (sat_gd g2 (sat_gd g3 (sat_tw (sim_lead s _ _ _) (kpX11_lead _ _ _ _) fun w ew hw => ?_))))
      rw [ew, eq]
      exact (sat_gd g1 (sat_gd g2 (sat_gd g3 (sat_bind hw fun z hz => sat_pos hz.1 (nxt z.2 hz.2)))))
    refine sat_ite (fun _ => ?_) fun _ => ?_
    · refine (sat_gd g1 (sat_gd g2 (sat_gd g3 (sat_tw (sim_where s _ _ _) (kpX11_where _ _ _ _) fun w ew hw => ?_))))
      rw [ew, eq]
      exact (sat_gd g1 (sat_gd g2 (sat_gd g3 (sat_bind hw fun z hz => sat_pos hz.1 (nxt z.2 hz.2)))))
    refine sat_ite (fun _ => ?_) fun _ => ?_
    · refine (sat_gd g1 (sat_gd g2 (sat_tw (sim_sorter s _ _) (kpX11_sorter _ _ _) fun w ew hw => ?_)))
      rw [ew, eq]
      exact (sat_gd g1 (sat_gd g2 (sat_bind hw fun z hz => sat_pos hz.1 (nxt z.2 hz.2))))
    refine sat_ite (fun _ => ?_) fun _ => ?_
    · refine (sat_gd g1 (sat_gd g2 (sat_tw (sim_seat s _ _) (kpX11_seat _ _ _) fun w ew hw => ?_)))
      rw [ew, eq]
      exact (sat_gd g1 (sat_gd g2 (sat_bind hw fun z hz => sat_pos hz.1 (nxt z.2 hz.2))))
    refine sat_ite (fun _ => ?_) fun _ => ?_
    · refine (sat_gd g1 (sat_gd g2 (sat_gd g3 (sat_tw (sim_run s _ _ _) (kpX11_run _ _ _ _) fun w ew hw => ?_))))
      rw [ew, eq]
      exact (sat_gd g1 (sat_gd g2 (sat_gd g3 (sat_bind hw fun z hz => sat_pos hz.1 (nxt z.2 hz.2)))))
    refine sat_ite (fun _ => ?_) fun _ => ?_
    · refine (sat_gd g1 (sat_gd g2 (sat_gd g3 (sat_tw (sim_account s _ _ _) (kpX11_account _ _ _ _) fun w ew hw => ?_))))
      rw [ew, eq]
      exact (sat_gd g1 (sat_gd g2 (sat_gd g3 (sat_bind hw fun z hz => sat_pos hz.1 (nxt z.2 hz.2)))))
    refine sat_ite (fun _ => ?_) fun _ => ?_
    · refine (sat_gd g1 (sat_tw (sim_nobody s _) (kpX11_nobody _ _) fun w ew hw => ?_))
      rw [ew, eq]
      exact (sat_gd g1 (sat_bind hw fun z hz => sat_pos hz.1 (nxt z.2 hz.2)))
    refine sat_ite (fun _ => ?_) fun _ => ?_
    · refine (sat_gd g1 (sat_gd g2 (sat_gd g3 (sat_tw (sim_place s _ _ _) (kpX11_place _ _ _ _) fun w ew hw => ?_))))
      rw [ew, eq]
      exact (sat_gd g1 (sat_gd g2 (sat_gd g3 (sat_bind hw fun z hz => sat_pos hz.1 (nxt z.2 hz.2)))))
    refine sat_ite (fun _ => ?_) fun _ => ?_
    · refine (sat_gd g1 (sat_gd g2 (sat_tw (sim_order s _ _) (kpX11_order _ _ _) fun w ew hw => ?_)))
      rw [ew, eq]
      exact (sat_gd g1 (sat_gd g2 (sat_bind hw fun z hz => sat_pos (by rw [hz.1]; exact lgc_self _) (nxt z.2 hz.2))))
    refine sat_ite (fun _ => ?_) fun _ => ?_
    · refine (sat_gd g1 (sat_gd g2 (sat_tw (sim_found s _ _) (kpX11_found _ _ _) fun w ew hw => ?_)))
      rw [ew, eq]
      exact (sat_gd g1 (sat_gd g2 (sat_bind hw fun z hz => sat_pos hz.1 (nxt z.2 hz.2))))
    refine sat_ite (fun _ => ?_) fun _ => ?_
    · refine (sat_gd g1 (sat_gd g2 (sat_tw (sim_rob s _ _) (kpX11_rob _ _ _) fun w ew hw => ?_)))
      rw [ew, eq]
      exact (sat_gd g1 (sat_gd g2 (sat_bind hw fun z hz => sat_pos hz.1 (nxt z.2 hz.2))))
    refine sat_ite (fun _ => ?_) fun _ => ?_
    · refine (sat_gd g1 (sat_gd g2 (sat_tw (sim_robbery s _ _) (kpX11_robbery _ _ _) fun w ew hw => ?_)))
      rw [ew, eq]
      exact (sat_gd g1 (sat_gd g2 (sat_bind hw fun z hz => sat_pos hz.1 (nxt z.2 hz.2))))
    refine sat_ite (fun _ => ?_) fun _ => ?_
    · refine (sat_gd g1 (sat_tw (sim_set s _) (kpX11_set _ _) fun w ew hw => ?_))
      rw [ew, eq]
      exact (sat_gd g1 (sat_bind hw fun z hz => sat_pos hz.1 (nxt z.2 hz.2)))
    refine sat_ite (fun _ => ?_) fun _ => ?_
    · refine (sat_gd g1 (sat_gd g2 (sat_tw (sim_seen s _ _) (kpX11_seen _ _ _) fun w ew hw => ?_)))
      rw [ew, eq]
      exact (sat_gd g1 (sat_gd g2 (sat_bind hw fun z hz => sat_pos hz.1 (nxt z.2 hz.2))))
    refine sat_ite (fun _ => ?_) fun _ => ?_
    · refine (sat_gd g1 (sat_gd g2 (sat_tw (sim_clock s _ _) (kpX11_clock _ _ _) fun w ew hw => ?_)))
      rw [ew, eq]
      exact (sat_gd g1 (sat_gd g2 (sat_bind hw fun z hz => sat_pos hz.1 (nxt z.2 hz.2))))
    refine sat_ite (fun _ => ?_) fun _ => ?_
    · refine (sat_gd g1 (sat_gd g2 (sat_gd g3 (sat_tw (sim_trueMinute s _ _ _) (kpX11_trueMinute _ _ _ _) fun w ew hw => ?_))))
      rw [ew, eq]
      exact (sat_gd g1 (sat_gd g2 (sat_gd g3 (sat_bind hw fun z hz => sat_pos hz.1 (nxt z.2 hz.2)))))
    refine sat_ite (fun _ => ?_) fun _ => ?_
    · refine (sat_gd g1 (sat_tw (sim_tried s _) (kpX11_tried _ _) fun w ew hw => ?_))
      rw [ew, eq]
      exact (sat_gd g1 (sat_bind hw fun z hz => sat_pos (by rw [hz.1]; exact lgc_self _) (nxt z.2 hz.2)))
    refine sat_ite (fun _ => ?_) fun _ => ?_
    · refine (sat_gd g1 (sat_gd g2 (sat_gd g3 (sat_tw (sim_whatIf s _ _ _) (kpX11_whatIf _ _ _ _) fun w ew hw => ?_))))
      rw [ew, eq]
      exact (sat_gd g1 (sat_gd g2 (sat_gd g3 (sat_bind hw fun z hz => sat_pos hz.1 (nxt z.2 hz.2)))))
    refine sat_ite (fun _ => ?_) fun _ => ?_
    · refine (sat_gd g1 (sat_tw (sim_seats s _) (kpX11_seats _ _) fun w ew hw => ?_))
      rw [ew, eq]
      exact (sat_gd g1 (sat_bind hw fun z hz => sat_pos hz.1 (nxt z.2 hz.2)))
    exact nxt h ⟨s, rfl⟩
