/-! the class collects its keys -/
def cPos (x : Nat) : Nat := ((kT x * 7 + kD x) * 8 + kI x) * 2 + kGo x
theorem kGo_lt (x : Nat) : kGo x < 2 := by
  unfold kGo
  omega
theorem cPos_eq {x t d i g : Nat} (hx : kD x < 7) (hd : d < 7) (hi : i < 8) (hg : g < 2) (e : cPos x = ((t * 7 + d) * 8 + i) * 2 + g) : kT x = t ∧ kD x = d ∧ kI x = i ∧ kGo x = g := by
  have h1 := kI_lt x
  have h2 := kGo_lt x
  unfold cPos at e
  omega
theorem tKey_inj {T : Nat → Nat → Nat → Nat} {x y : Nat} (hx : tKey T x) (hy : tKey T y) (e : cPos x = cPos y) : x = y := by
  obtain ⟨x1, x2, x3, x4⟩ := hx
  obtain ⟨y1, y2, y3, y4⟩ := hy
  obtain ⟨e1, e2, e3, e4⟩ := cPos_eq x2 y2 (kI_lt y) (kGo_lt y) e
  rw [k_all x, k_all y]
  rw [e1, e2, e3] at x4
  have e6 : kMin x = kMin y := by
    rcases x4 with ⟨a1, a2, a3, a4⟩ | ⟨a1, a2, a4⟩ <;> rcases y4 with ⟨b1, b2, b3, b4⟩ | ⟨b1, b2, b4⟩ <;> omega
  rw [e1, e2, e3, e4, e6]
def cKeys (h : ea_H) (K : List Nat) : Prop := hI h 13 1 = K.length ∧ rowIs (hI h 14) K
theorem rowIs_app {f g : Nat → Int} {K : List Nat} {y : Nat} (h : rowIs f K) (h1 : ∀ e, e < K.length → g e = f e) (h2 : g K.length = y) : rowIs g (K ++ [y]) := by
  intro e he
  rw [List.length_append, List.length_singleton] at he
  rw [List.getD_eq_getElem?_getD]
  by_cases hc : e < K.length
  · rw [List.getElem?_append_left hc, ← List.getD_eq_getElem?_getD, h1 e hc]
    exact h e hc
  · have : e = K.length := by omega
    subst this
    rw [List.getElem?_concat_length, h2]
    rfl
theorem c_addKey {x1 x2 : Int32} {m r : Nat} (e1 : x1.toInt = m) (e2 : x2.toInt = r) (hr : r < 2048) {h : ea_H} {K : List Nat} (hk : cKeys h K) (hl : K.length ≤ 980) (hl2 : m ≤ 10079 → K.length < 980) : sat (qX10_addKey x1 x2 h) fun y => fr [(13, 14)] h y.2 ∧ cKeys y.2 (if m ≤ 10079 then K ++ [m * 2048 + r] else K) := by
  obtain ⟨k1, k2⟩ := hk
  unfold qX10_addKey BX10_addKey_0
  by_cases hm : m ≤ 10079
  · have hn := hl2 hm
    rw [if_pos hm]
    refine sat_neg (by rw [n_lt, l_10079, e1]; omega) ?_
    refine sat_neg (by rw [n_le, l_980, hI_eq, k1]; omega) ?_
    refine sat_gd (n_in (by rw [hI_eq, k1]; omega) (by rw [hI_eq, k1]; omega)) ?_
    have hi : (ea_i h 13 1).toNatClampNeg = K.length := by
      rw [n_idx, hI_eq, k1]
      omega
    have hv : ((x1 <<< ((11 : Int32) &&& 31)) ||| x2).toInt = ((m * 2048 + r : Nat) : Int) := by
      have b1 : (x1 <<< ((11 : Int32) &&& 31)).toInt = m * 2048 := by rw [s_shl_11 (by omega) (by omega), e1]
      rw [s_or 11 (by omega) (by rw [b1]; show ((m : Int) * 2048) % 2048 = 0; omega) (by omega) (by rw [e2]; show (r : Int) < 2048; omega), b1, e2]
      omega
    refine sat_let fun H eH => sat_let fun H2 eH2 => sat_ret ⟨?_, ?_, ?_⟩
    · refine fr.tr (h2 := H) ?_ ?_
      · rw [eH]
        exact fr_wi rfl
      · rw [eH2]
        exact fr_wi rfl
    · rw [eH2, hI_wi, if_pos ⟨rfl, rfl⟩, n_add, l_1, hI_eq, eH, hI_wi, if_neg (by omega), k1, List.length_append, List.length_singleton, n_bm (by omega) (by omega)]
      omega
    · refine rowIs_app k2 (fun e he => ?_) ?_
      · rw [eH2, hI_wi, if_neg (by omega), eH, hI_wi, hi, if_neg (by omega)]
      · rw [eH2, hI_wi, if_neg (by omega), eH, hI_wi, hi, if_pos ⟨rfl, rfl⟩]
        exact hv
  · rw [if_neg hm]
    refine sat_pos (by rw [n_lt, l_10079, e1]; omega) (sat_ret ⟨fr_rfl _ _, k1, k2⟩)
def cInv (T : Nat → Nat → Nat → Nat) (b : Nat) (h : ea_H) (K : List Nat) : Prop := ShC h ∧ CTab h T ∧ cKeys h K ∧ K.Nodup ∧ ∀ x, x ∈ K ↔ tKey T x ∧ cPos x < b
theorem cInv_len {T : Nat → Nat → Nat → Nat} (ok : tOk T) {b : Nat} {h : ea_H} {K : List Nat} (c : cInv T b h K) : K.length ≤ 980 := t_len ok c.2.2.2.1 fun x hx => ((c.2.2.2.2 x).mp hx).1
theorem cInv_skip {T : Nat → Nat → Nat → Nat} {b b2 : Nat} {h : ea_H} {K : List Nat} (c : cInv T b h K) (hb : b ≤ b2) (hn : ∀ x, tKey T x → b ≤ cPos x → ¬ cPos x < b2) : cInv T b2 h K := by
  obtain ⟨c1, c2, c3, c4, c5⟩ := c
  refine ⟨c1, c2, c3, c4, fun x => ⟨fun hx => ?_, fun hx => ?_⟩⟩
  · have := (c5 x).mp hx
    exact ⟨this.1, by omega⟩
  · refine (c5 x).mpr ⟨hx.1, Nat.not_le.mp fun q => hn x hx.1 q hx.2⟩
theorem cInv_fr {T : Nat → Nat → Nat → Nat} {b : Nat} {h h' : ea_H} {K K' : List Nat} (c : cInv T b h K) (f : fr [(13, 14)] h h') (k : cKeys h' K') : ShC h' ∧ CTab h' T ∧ cKeys h' K' := ⟨ShC_core f.1 c.1, c.2.1.fr f rfl rfl rfl rfl rfl rfl, k⟩
/-- a key is added, if its minute is one -/
theorem cInv_key {T : Nat → Nat → Nat → Nat} (ok : tOk T) {b m r : Nat} {h : ea_H} {K : List Nat} (c : cInv T b h K) {x1 x2 : Int32} (e1 : x1.toInt = m) (e2 : x2.toInt = r) (hr : r < 2048) (hy : m ≤ 10079 → tKey T (m * 2048 + r)) (hp : cPos (m * 2048 + r) = b) (hn : ¬ m ≤ 10079 → ∀ x, tKey T x → cPos x ≠ b) : sat (qX10_addKey x1 x2 h) fun y => fr [(13, 14)] h y.2 ∧ ∃ K', cInv T (b + 1) y.2 K' := by
  have hlen := cInv_len ok c
  have hnew : m ≤ 10079 → m * 2048 + r ∉ K := fun hm hx => by
    have := ((c.2.2.2.2 _).mp hx).2
    omega
  have hl2 : m ≤ 10079 → K.length < 980 := fun hm => by
    have h1 : ((m * 2048 + r) :: K).Nodup := List.nodup_cons.mpr ⟨hnew hm, c.2.2.2.1⟩
    have h2 := t_len ok h1 fun x hx => by
      rcases List.mem_cons.mp hx with rfl | hx
      · exact hy hm
      · exact ((c.2.2.2.2 x).mp hx).1
    simp only [List.length_cons] at h2
    omega
  refine sat_mono (c_addKey e1 e2 hr c.2.2.1 hlen hl2) fun y hq => ⟨hq.1, (if m ≤ 10079 then K ++ [m * 2048 + r] else K), ?_⟩
  · obtain ⟨a1, a2, a3⟩ := cInv_fr c hq.1 hq.2
    refine ⟨a1, a2, a3, ?_, fun x => ?_⟩
    · by_cases hm : m ≤ 10079
      · rw [if_pos hm]
        refine List.nodup_append.mpr ⟨c.2.2.2.1, by simp, fun a ha b hb => ?_⟩
        rw [List.mem_singleton.mp hb]
        intro e
        exact hnew hm (e ▸ ha)
      · rw [if_neg hm]
        exact c.2.2.2.1
    · by_cases hm : m ≤ 10079
      · rw [if_pos hm, List.mem_append, List.mem_singleton, c.2.2.2.2 x]
        constructor
        · rintro (h1 | rfl)
          · exact ⟨h1.1, by omega⟩
          · exact ⟨hy hm, by omega⟩
        · intro ⟨h1, h2⟩
          by_cases hb : cPos x = b
          · exact Or.inr (tKey_inj h1 (hy hm) (by omega))
          · exact Or.inl ⟨h1, by omega⟩
      · rw [if_neg hm, c.2.2.2.2 x]
        constructor
        · intro ⟨h1, h2⟩
          exact ⟨h1, by omega⟩
        · intro ⟨h1, h2⟩
          have := hn hm x h1
          exact ⟨h1, by omega⟩
theorem k_of {m g t d i : Nat} (hg : g < 2) (ht : t < 16) (hd : d < 8) (hi : i < 8) : kMin (m * 2048 + (g * 1024 + t * 64 + d * 8 + i)) = m ∧ kGo (m * 2048 + (g * 1024 + t * 64 + d * 8 + i)) = g ∧ kT (m * 2048 + (g * 1024 + t * 64 + d * 8 + i)) = t ∧ kD (m * 2048 + (g * 1024 + t * 64 + d * 8 + i)) = d ∧ kI (m * 2048 + (g * 1024 + t * 64 + d * 8 + i)) = i := by
  unfold kMin kGo kT kD kI
  omega
