
/-! the engine, 1: abstract values, abstract heaps (cells by number), what they stand for -/
abbrev ea_V : Type := Int32 ⊕ Int64 ⊕ Option Nat ⊕ Nat
abbrev vI (x : Int32) : ea_V := .inl x
abbrev vJ (x : Int64) : ea_V := .inr (.inl x)
abbrev vR (r : Option Nat) : ea_V := .inr (.inr (.inl r))
abbrev vO (i : Nat) : ea_V := .inr (.inr (.inr i))
abbrev ea_H : Type := ((Nat × Nat) × Nat × (Nat → Int32)) × (Nat → Nat) × (Nat → Nat) × (Nat → Nat → Int32) × (Nat → Nat → Int64) × (Nat → Nat → Option Nat)
def ea_n (h : ea_H) : Nat := h.1.1.1
def ea_s (h : ea_H) : Nat := h.1.1.2
/-- the script: its length, its ints -/
def ea_q (h : ea_H) : Nat × (Nat → Int32) := h.1.2
def ea_c (h : ea_H) : Nat → Nat := h.2.1
def ea_l (h : ea_H) : Nat → Nat := h.2.2.1
def ea_i (h : ea_H) : Nat → Nat → Int32 := h.2.2.2.1
def ea_j (h : ea_H) : Nat → Nat → Int64 := h.2.2.2.2.1
def ea_r (h : ea_H) : Nat → Nat → Option Nat := h.2.2.2.2.2
def ea_u1 {α : Type} (f : Nat → α) (a : Nat) (x : α) : Nat → α := fun b => if b = a then x else f b
def ea_u2 {α : Type} (f : Nat → Nat → α) (a k : Nat) (x : α) : Nat → Nat → α := fun b j => if b = a ∧ j = k then x else f b j
def ea_wi (h : ea_H) (a k : Nat) (x : Int32) : ea_H := (h.1, h.2.1, h.2.2.1, ea_u2 (ea_i h) a k x, h.2.2.2.2)
def ea_wj (h : ea_H) (a k : Nat) (x : Int64) : ea_H := (h.1, h.2.1, h.2.2.1, h.2.2.2.1, ea_u2 (ea_j h) a k x, h.2.2.2.2.2)
def ea_wr (h : ea_H) (a k : Nat) (x : Option Nat) : ea_H := (h.1, h.2.1, h.2.2.1, h.2.2.2.1, h.2.2.2.2.1, ea_u2 (ea_r h) a k x)
def ea_new (h : ea_H) (c len sz : Nat) : ea_H := (((ea_n h + 1, ea_s h + sz), h.1.2), ea_u1 (ea_c h) (ea_n h) c, ea_u1 (ea_l h) (ea_n h) len, ea_u1 (ea_i h) (ea_n h) (fun _ => 0), ea_u1 (ea_j h) (ea_n h) (fun _ => 0), ea_u1 (ea_r h) (ea_n h) (fun _ => none))
/-- the classes, in the order of their names' numbers -/
def ea_cl : List vw_C := [(RX0, TX0, 11), (RX1, TX1, 16), (RX2, TX2, 3), (RX3, TX3, 5), (RX4, TX4, 4), (RX5, TX5, 20), (RX6, TX6, 10), (RX7, TX7, 4), (RX8, TX8, 5), (RX9, TX9, 8), (RX10, TX10, 7), (RX11, TX11, 19), (RX12, TX12, 118)]
def ea_N (c : Nat) : Nat := match c with
  | 0 => 11
  | 1 => 16
  | 2 => 3
  | 3 => 5
  | 4 => 4
  | 5 => 20
  | 6 => 10
  | 7 => 4
  | 8 => 5
  | 9 => 8
  | 10 => 7
  | 11 => 19
  | _ => 118
def ea_ty (c k : Nat) : FieldType := match c with
  | 0 => tyX0 k
  | 1 => tyX1 k
  | 2 => tyX2 k
  | 3 => tyX3 k
  | 4 => tyX4 k
  | 5 => tyX5 k
  | 6 => tyX6 k
  | 7 => tyX7 k
  | 8 => tyX8 k
  | 9 => tyX9 k
  | 10 => tyX10 k
  | 11 => tyX11 k
  | _ => tyX12 k
def ea_k1 (t : FieldType) : Nat := match t with
  | .long => 1
  | .object _ => 2
  | .array _ => 2
  | _ => 0
def ea_fk (c k : Nat) : Nat := ea_k1 (ea_ty c k)
abbrev ea_G : Type := va_G × (Nat → ClassId) × (Nat → Nat) × (Nat → Nat)
def ea_v (ad ro : Nat → Nat) (v : ea_V) : Value := match v with
  | .inl x => .int x
  | .inr (.inl x) => .long x
  | .inr (.inr (.inl r)) => va_rf (r.map ad)
  | .inr (.inr (.inr i)) => .ref (ro i)
abbrev ea_st (ad ro : Nat → Nat) (st : List ea_V) : List Value := st.map (ea_v ad ro)
abbrev ea_lv (ad ro : Nat → Nat) (lv : List (Nat × ea_V)) : List (Nat × Value) := lv.map fun q => (q.1, ea_v ad ro q.2)
def ea_wide (v : ea_V) : Bool := match v with
  | .inr (.inl _) => true
  | _ => false
theorem ea_wide_cat (ad ro : Nat → Nat) (v : ea_V) : ((ea_v ad ro v).category == 2) = ea_wide v := by
  rcases v with x | x | (_ | r) | i <;> rfl
def ea_fv (ad : Nat → Nat) (h : ea_H) (ci i k : Nat) : Value := if ea_fk ci k = 0 then .int (ea_i h i k) else if ea_fk ci k = 1 then .long (ea_j h i k) else va_rf ((ea_r h i k).map ad)
def ea_ar (ad : Nat → Nat) (h : ea_H) (i c : Nat) : vp_A := (ea_l h i, if c ≤ 21 then .inl (ea_i h i) else if c = 22 then .inr (.inl (ea_j h i)) else .inr (.inr (.inr (.inr fun j => (ea_r h i j).map ad))))
def ea_e (κ : Nat → ClassId) (ad : Nat → Nat) (h : ea_H) (i : Nat) : va_E := if ea_c h i < 20 then .inr (ea_c h i, (List.range (ea_N (ea_c h i))).map (ea_fv ad h (ea_c h i) i)) else .inl (κ (ea_c h i), ea_ar ad h i (ea_c h i))
def ea_ws (κ : Nat → ClassId) (ad : Nat → Nat) (h : ea_H) : va_W := (List.range (ea_n h)).map fun i => (ad i, ea_e κ ad h i)
theorem ea_at {κ : Nat → ClassId} {ad : Nat → Nat} {h : ea_H} {i : Nat} (hi : i < ea_n h) : (ea_ws κ ad h)[i]? = some (ad i, ea_e κ ad h i) := by
  simp [ea_ws, hi]
theorem ea_at_inv {κ : Nat → ClassId} {ad : Nat → Nat} {h : ea_H} {i : Nat} {q : Nat × va_E} (hq : (ea_ws κ ad h)[i]? = some q) : i < ea_n h ∧ q = (ad i, ea_e κ ad h i) := by
  by_cases hi : i < ea_n h
  · rw [ea_at hi] at hq
    exact ⟨hi, (Option.some.inj hq).symm⟩
  · simp [ea_ws, hi] at hq
theorem ea_ws_set {κ : Nat → ClassId} {ad : Nat → Nat} {h h' : ea_H} {a : Nat} (hn : ea_n h' = ea_n h) (ho : ∀ b, b ≠ a → ea_e κ ad h' b = ea_e κ ad h b) : (ea_ws κ ad h).set a (ad a, ea_e κ ad h' a) = ea_ws κ ad h' := by
  apply List.ext_getElem?
  intro i
  by_cases hi : i < ea_n h
  · rw [ea_at (h := h') (by omega)]
    by_cases hia : i = a
    · subst hia
      rw [List.getElem?_set_self (by simp [ea_ws, hi])]
    · rw [List.getElem?_set_ne (Ne.symm hia), ea_at hi, ho i hia]
  · rw [List.getElem?_eq_none (by simp [ea_ws]; omega), List.getElem?_eq_none (by simp [ea_ws]; omega)]
theorem ea_ws_push {κ : Nat → ClassId} {ad : Nat → Nat} {h h' : ea_H} (hn : ea_n h' = ea_n h + 1) (ho : ∀ b, b < ea_n h → ea_e κ ad h' b = ea_e κ ad h b) : ea_ws κ ad h ++ [(ad (ea_n h), ea_e κ ad h' (ea_n h))] = ea_ws κ ad h' := by
  unfold ea_ws
  rw [hn, List.range_succ, List.map_append]
  congr 1
  apply List.map_congr_left
  intro i hi
  rw [ho i (List.mem_range.mp hi)]
theorem ea_e_wi {κ : Nat → ClassId} {ad : Nat → Nat} {h : ea_H} {a k : Nat} {x : Int32} (b : Nat) (hb : b ≠ a) : ea_e κ ad (ea_wi h a k x) b = ea_e κ ad h b := by
  have h1 : ea_i (ea_wi h a k x) b = ea_i h b := by funext j; simp [ea_i, ea_wi, ea_u2, hb]
  unfold ea_e ea_ar
  rw [h1, show ea_c (ea_wi h a k x) = ea_c h from rfl, show ea_l (ea_wi h a k x) = ea_l h from rfl, show ea_j (ea_wi h a k x) = ea_j h from rfl, show ea_r (ea_wi h a k x) = ea_r h from rfl]
  have h2 : ea_fv ad (ea_wi h a k x) (ea_c h b) b = ea_fv ad h (ea_c h b) b := by
    funext j; unfold ea_fv; rw [h1]; rfl
  rw [h2]
theorem ea_e_wj {κ : Nat → ClassId} {ad : Nat → Nat} {h : ea_H} {a k : Nat} {x : Int64} (b : Nat) (hb : b ≠ a) : ea_e κ ad (ea_wj h a k x) b = ea_e κ ad h b := by
  have h1 : ea_j (ea_wj h a k x) b = ea_j h b := by funext j; simp [ea_j, ea_wj, ea_u2, hb]
  unfold ea_e ea_ar
  rw [h1, show ea_c (ea_wj h a k x) = ea_c h from rfl, show ea_l (ea_wj h a k x) = ea_l h from rfl, show ea_i (ea_wj h a k x) = ea_i h from rfl, show ea_r (ea_wj h a k x) = ea_r h from rfl]
  have h2 : ea_fv ad (ea_wj h a k x) (ea_c h b) b = ea_fv ad h (ea_c h b) b := by
    funext j; unfold ea_fv; rw [h1]; rfl
  rw [h2]
theorem ea_e_wr {κ : Nat → ClassId} {ad : Nat → Nat} {h : ea_H} {a k : Nat} {x : Option Nat} (b : Nat) (hb : b ≠ a) : ea_e κ ad (ea_wr h a k x) b = ea_e κ ad h b := by
  have h1 : ea_r (ea_wr h a k x) b = ea_r h b := by funext j; simp [ea_r, ea_wr, ea_u2, hb]
  unfold ea_e ea_ar
  rw [h1, show ea_c (ea_wr h a k x) = ea_c h from rfl, show ea_l (ea_wr h a k x) = ea_l h from rfl, show ea_i (ea_wr h a k x) = ea_i h from rfl, show ea_j (ea_wr h a k x) = ea_j h from rfl]
  have h2 : ea_fv ad (ea_wr h a k x) (ea_c h b) b = ea_fv ad h (ea_c h b) b := by
    funext j; unfold ea_fv; rw [h1]; rfl
  rw [h2]
theorem ea_e_new {κ : Nat → ClassId} {ad : Nat → Nat} {h : ea_H} {c len sz : Nat} (b : Nat) (hb : b < ea_n h) : ea_e κ ad (ea_new h c len sz) b = ea_e κ ad h b := by
  have hb' : b ≠ ea_n h := by omega
  have h1 : ea_i (ea_new h c len sz) b = ea_i h b := by simp only [ea_i, ea_new, ea_u1, if_neg hb']
  have h2 : ea_j (ea_new h c len sz) b = ea_j h b := by simp only [ea_j, ea_new, ea_u1, if_neg hb']
  have h3 : ea_r (ea_new h c len sz) b = ea_r h b := by simp only [ea_r, ea_new, ea_u1, if_neg hb']
  have h4 : ea_c (ea_new h c len sz) b = ea_c h b := by simp only [ea_c, ea_new, ea_u1, if_neg hb']
  have h5 : ea_l (ea_new h c len sz) b = ea_l h b := by simp only [ea_l, ea_new, ea_u1, if_neg hb']
  unfold ea_e ea_ar
  rw [h1, h2, h3, h4, h5]
  have h6 : ea_fv ad (ea_new h c len sz) (ea_c h b) b = ea_fv ad h (ea_c h b) b := by
    funext j; unfold ea_fv; rw [h1, h2, h3]
  rw [h6]
/-! the region's addresses: those at the entry are apart and old, the later ones follow each other -/
def ea_Ad (ad : Nat → Nat) (n sz : Nat) : Prop := (∀ i j, i < n → j < n → ad i = ad j → i = j) ∧ (∀ i, i < n → ad i < sz) ∧ ∀ i, n ≤ i → ad i + n = sz + i
def ea_A (ad : Nat → Nat) (n sz : Nat) : Nat → Prop := fun q => (∃ i, i < n ∧ q = ad i) ∨ sz ≤ q
theorem ea_Ad.up {ad : Nat → Nat} {n sz n' sz' : Nat} (h : ea_Ad ad n sz) (hn : n ≤ n') (hz : sz' + n = sz + n') : ea_Ad ad n' sz' := by
  obtain ⟨h1, h2, h3⟩ := h
  have key : ∀ i, i < n' → ad i < sz' := by
    intro i hi
    by_cases hin : i < n
    · have := h2 i hin
      omega
    · have := h3 i (by omega)
      omega
  refine ⟨fun i j hi hj hij => ?_, key, fun i hi => ?_⟩
  · by_cases hin : i < n <;> by_cases hjn : j < n
    · exact h1 i j hin hjn hij
    · have a1 := h2 i hin
      have a2 := h3 j (by omega)
      omega
    · have a1 := h2 j hjn
      have a2 := h3 i (by omega)
      omega
    · have a1 := h3 i (by omega)
      have a2 := h3 j (by omega)
      omega
  · have := h3 i (by omega)
    omega
theorem ea_Ad.inA {ad : Nat → Nat} {n sz : Nat} (h : ea_Ad ad n sz) (i : Nat) : ea_A ad n sz (ad i) := by
  by_cases hi : i < n
  · exact Or.inl ⟨i, hi, rfl⟩
  · exact Or.inr (by have := h.2.2 i (by omega); omega)
theorem ea_Ad.sub {ad : Nat → Nat} {n sz n' sz' : Nat} (h : ea_Ad ad n sz) (hn : n ≤ n') (hz : sz' + n = sz + n') : ∀ q, ea_A ad n' sz' q → ea_A ad n sz q := by
  intro q hq
  rcases hq with ⟨i, -, rfl⟩ | hq
  · exact h.inA i
  · exact Or.inr (by omega)
theorem ea_Ad.D {κ : Nat → ClassId} {ad : Nat → Nat} {n sz : Nat} {h : ea_H} {sz' : Nat} (hA : ea_Ad ad n sz) (hn : n ≤ ea_n h) (hz : sz' + n = sz + ea_n h) : va_D (ea_A ad n sz) (ea_ws κ ad h) := by
  have hA' := hA.up hn hz
  refine ⟨fun i j x y hx hy hxy => ?_, fun k q hq => ?_⟩
  · obtain ⟨hi, rfl⟩ := ea_at_inv hx
    obtain ⟨hj, rfl⟩ := ea_at_inv hy
    exact hA'.1 i j hi hj hxy
  · obtain ⟨hi, rfl⟩ := ea_at_inv hq
    exact hA.inA k
/-- the tables' words that hold wherever the machine stands -/
def ea_tbl : List Cond := lw_tbl.filter goodWord
theorem ea_in {w : Cond} (h : w ∈ lw_tbl) (g : goodWord w = true) : w ∈ ea_tbl := List.mem_filter.mpr ⟨h, g⟩
/-! what a method knows: its code, the tables' words; the classes; the cells that nobody writes (the script; the words' row) -/
abbrev ea_M : Type := MethodName × ByteArray × Nat × Option FieldType
def ea_Ctx (M : ea_M) (p : Program) (s : State) (m : MethodId) (args : Array Value) (meth : Method) (c : Code) : Prop :=
  CallFix p m c M.2.1 M.2.2.1 s args ea_tbl M.1.cls ∧ meth.sig.returnType = M.2.2.2 ∧ meth.locks = false ∧ meth.name = M.1.name
def ea_tys (κ : Nat → ClassId) : List (ClassId × FieldType) := [(κ 20, .int), (κ 21, .boolean), (κ 22, .long), (κ 23, .object "InlandMails$Letter"), (κ 24, .object "InlandMails$Clock"), (κ 25, .object "InlandMails$Act")]
/-- words that aren't among the good ones, and stay all the same -/
def ea_special (w : Cond) : Bool := match w with
  | .methodLinkNest _ _ _ _ => true
  | .arrayOver (.object _) => true
  | _ => false
def ea_nl : List Cond := lw_tbl.filter ea_special
theorem ea_nin {w : Cond} (h : w ∈ lw_tbl) (g : ea_special w = true) : w ∈ ea_nl := List.mem_filter.mpr ⟨h, g⟩
/-! what nobody writes: the String constants (places 1 ..), their bytes (19 ..), the words' row (37) -/
def ea_sI : List Nat := [383, 389, 390, 392, 394, 396, 398, 400, 401, 403, 405, 407, 409, 410, 411, 413, 415, 416]
def ea_sT : List String := ["charge", "late", "frank", "ship", "sign", "dead", "after", "when", "or", "and", "not", "miles", "sheets", "weight", "hour", "day", "kind", "cross"]
def ea_sL : List Nat := [6, 4, 5, 4, 4, 4, 5, 4, 2, 3, 3, 5, 6, 6, 4, 3, 4, 5]
def ea_sB : List (List Int32) := [[99, 104, 97, 114, 103, 101], [108, 97, 116, 101], [102, 114, 97, 110, 107], [115, 104, 105, 112], [115, 105, 103, 110], [100, 101, 97, 100], [97, 102, 116, 101, 114], [119, 104, 101, 110], [111, 114], [97, 110, 100], [110, 111, 116], [109, 105, 108, 101, 115], [115, 104, 101, 101, 116, 115], [119, 101, 105, 103, 104, 116], [104, 111, 117, 114], [100, 97, 121], [107, 105, 110, 100], [99, 114, 111, 115, 115]]
def ea_wd : List Int64 := [109299962636133, 1818326117, 440005652075, 1936222576, 1936287598, 1684365668, 469920146803, 126892214940787, 131277443786868, 1752135026, 6578553, 1802071652, 427121668979, 2003330414, 418330731890, 7237492, 6385252, 28530]
def ea_K (w : ea_G) (s : State) : Prop := va_K w.1 ea_cl (ea_tys w.2.1) s ∧ (∀ x ∈ ea_nl, va_Nw x s) ∧ ∀ i : Nat, i < 18 → vk_R "InlandMailsModel" (ea_sI.getD i 0) (ea_sT.getD i "") (w.2.2.2 (1 + i)) s
theorem ea_nw_warm {x : Cond} {s U : State} (hg : ea_special x = true) (hW : s.WarmedH U.vm) (h : va_Nw x s) : va_Nw x U := by
  unfold ea_special at hg
  split at hg
  · exact va_Nw.warmM hW h
  · exact va_AO.moved (u := s) (U := U) hW.alike h
  · cases hg
theorem ea_nw_same {x : Cond} {s U : State} (hg : ea_special x = true) (hv : s.vm = U.vm) (h : va_Nw x s) : va_Nw x U := by
  unfold ea_special at hg
  split at hg
  · exact va_Nw.same rfl hv h
  · exact va_AO.moved (u := s) (U := U) (by rw [hv]; exact Vm.Alike.refl _) h
  · cases hg
theorem ea_K.warm {w : ea_G} {s U : State} (hW : s.WarmedH U.vm) (h : ea_K w s) : ea_K w U := ⟨va_K.moved hW.alike h.1, fun x hx => ea_nw_warm (List.mem_filter.mp hx).2 hW (h.2.1 x hx), fun i hi => (h.2.2 i hi).warm hW⟩
theorem ea_K.same {w : ea_G} {s U : State} (hv : s.vm = U.vm) (h : ea_K w s) : ea_K w U := ⟨va_K.moved (by rw [hv]; exact Vm.Alike.refl _) h.1, fun x hx => ea_nw_same (List.mem_filter.mp hx).2 hv (h.2.1 x hx), fun i hi => (h.2.2 i hi).same hv.symm⟩
def ea_Y (w : ea_G) (A : Nat → Prop) (s : State) (H : Heap) : Prop := vk_S 18 ea_sL ea_sB (fun i => w.2.2.2 (1 + i)) (fun i => w.2.2.2 (19 + i)) A s H ∧ va_T .long (w.2.2.2 37) 18 (fun j => .long (ea_wd.getD j 0)) A s H ∧ va_Z "InlandMails$Reader" "WORDS" "[J" (.ref (w.2.2.2 37)) A s H ∧ va_Z "java/lang/String" "COMPACT_STRINGS" "Z" (.int 1) A s H ∧ va_Zq "jdk/internal/util/Preconditions" "SIOOBE_FORMATTER" "Ljava/util/function/BiFunction;" A s H
theorem ea_Y.moved {w : ea_G} {A : Nat → Prop} {u U : State} {H : Heap} (hvm : u.vm.Alike U.vm) (h : ea_Y w A u H) : ea_Y w A U H := ⟨vk_S.moved hvm h.1, va_T.moved hvm h.2.1, va_Z.moved hvm h.2.2.1, va_Z.moved hvm h.2.2.2.1, va_Zq.moved hvm h.2.2.2.2⟩
theorem ea_Y.kept {w : ea_G} {A : Nat → Prop} {U : State} {H H1 : Heap} (h : ea_Y w A U H) (hq : ∀ a : Nat, a < H.size → ¬ A a → H1[a]? = H[a]?) : ea_Y w A U H1 := ⟨h.1.kept hq, h.2.1.kept hq, h.2.2.1.kept hq, h.2.2.2.1.kept hq, h.2.2.2.2.kept hq⟩
theorem ea_Y.narrow {w : ea_G} {A B : Nat → Prop} {U : State} {H : Heap} (h : ea_Y w A U H) (hAB : ∀ q, B q → A q) : ea_Y w B U H := ⟨h.1.narrow hAB, h.2.1.narrow hAB, h.2.2.1.narrow hAB, h.2.2.2.1.narrow hAB, h.2.2.2.2.narrow hAB⟩
/-- the script is the read-only cell 0 -/
def ea_X (w : ea_G) (x : Nat × (Nat → Int32)) (A : Nat → Prop) (s : State) (H : Heap) : Prop := va_X (w.2.2.2 0) x.1 x.2 s H ∧ w.2.2.2 0 < H.size ∧ ¬ A (w.2.2.2 0) ∧ ea_Y w A s H
theorem ea_X.moved {w : ea_G} {x : Nat × (Nat → Int32)} {A : Nat → Prop} {u U : State} {H : Heap} (hvm : u.vm.Alike U.vm) (h : ea_X w x A u H) : ea_X w x A U H := ⟨h.1.moved hvm, h.2.1, h.2.2.1, h.2.2.2.moved hvm⟩
theorem ea_X.kept {w : ea_G} {x : Nat × (Nat → Int32)} {A : Nat → Prop} {U : State} {H H1 : Heap} (h : ea_X w x A U H) (hs : H.size ≤ H1.size) (hq : ∀ a : Nat, a < H.size → ¬ A a → H1[a]? = H[a]?) : ea_X w x A U H1 := ⟨h.1.kept (hq _ h.2.1 h.2.2.1), Nat.lt_of_lt_of_le h.2.1 hs, h.2.2.1, h.2.2.2.kept hq⟩
theorem ea_X.narrow {w : ea_G} {x : Nat × (Nat → Int32)} {A B : Nat → Prop} {U : State} {H : Heap} (h : ea_X w x A U H) (hAB : ∀ q, B q → A q) : ea_X w x B U H := ⟨h.1, h.2.1, fun z => h.2.2.1 (hAB _ z), h.2.2.2.narrow hAB⟩
/-! a method's contract: its answer and the heap behind it are told outright; the depth d stands for its frames and locals -/
def ea_R (d mc ms : Nat) : Room := { frames := d, cells := mc, slots := ms, locals := 64 * d }
def ea_Pc (w : ea_G) (vs : List ea_V) (h : ea_H) (sz : Nat) : Array Value → State → Prop := va_Pc (vs.map (ea_v w.2.2.1 w.2.2.2)) fun U => U.heap.size = sz ∧ ea_K w U ∧ va_P w.1 ea_cl (ea_ws w.2.1 w.2.2.1 h) U.heap ∧ ea_X w (ea_q h) (ea_A w.2.2.1 (ea_n h) sz) U U.heap ∧ ea_Ad w.2.2.1 (ea_n h) sz
def ea_Qc (w : ea_G) (rv : Option ea_V) (h h' : ea_H) (sz : Nat) : Array Value → State → Outcome → State → Prop := fun _ st o t =>
  o = .returned (rv.map (ea_v w.2.2.1 w.2.2.2)) ∧ t.heap.size + ea_n h = sz + ea_n h' ∧ va_P w.1 ea_cl (ea_ws w.2.1 w.2.2.1 h') t.heap ∧ va_F (ea_A w.2.2.1 (ea_n h) sz) st t
def ea_Met (M : ea_M) (d : Nat) (vs : List ea_V) (h : ea_H) (rv : Option ea_V) (h' : ea_H) : Prop :=
  ea_n h ≤ ea_n h' ∧ ea_s h ≤ ea_s h' ∧ ea_q h' = ea_q h ∧ ∀ (l : Launch) (w : ea_G) (sz : Nat), Met l M.1 (Cond.code M.1 M.2.1 M.2.2.1 M.2.2.2 :: ea_tbl) (ea_R d (ea_n h' - ea_n h) (ea_s h' - ea_s h)) (ea_Pc w vs h sz) (ea_Qc w rv h h' sz) (ea_n h' - ea_n h) (ea_s h' - ea_s h) (ea_A w.2.2.1 (ea_n h) sz)
/-! the walk: from this pc, with these locals, this stack and this heap, the method comes to its end with rv and hE -/
def ea_W (M : ea_M) (d : Nat) (h0 : ea_H) (rv : Option ea_V) (hE : ea_H) (pc : Nat) (lv : List (Nat × ea_V)) (st : List ea_V) (h : ea_H) : Prop :=
  ea_n h ≤ ea_n hE ∧ ea_s h ≤ ea_s hE ∧ ea_q hE = ea_q h ∧ ∀ (p : Program) (l : Launch) (e : Env) (s : State) (m : MethodId) (args : Array Value) (below : List Frame) (meth : Method) (c : Code) (w : ea_G) (H : Heap) (locs : List Loc) (ls : Array Slot),
    ea_Ctx M p s m args meth c → ea_Ad w.2.2.1 (ea_n h0) s.heap.size → ea_K w s → ea_X w (ea_q h0) (ea_A w.2.2.1 (ea_n h0) s.heap.size) s s.heap → ea_n h0 ≤ ea_n h → ea_s h0 ≤ ea_s h → H.size + ea_n h0 = s.heap.size + ea_n h →
    va_P w.1 ea_cl (ea_ws w.2.1 w.2.2.1 h) H → va_S (ea_A w.2.2.1 (ea_n h0) s.heap.size) s.heap H locs → lv_has ls M.2.2.1 (ea_lv w.2.2.1 w.2.2.2 lv) → ea_q h = ea_q h0 →
    W p l e (ea_R d (ea_n hE - ea_n h0) (ea_s hE - ea_s h0)) s m args below meth c H locs (ea_n h - ea_n h0) (ea_s h - ea_s h0) (MQ below (ea_Qc w rv h0 hE s.heap.size) args s (ea_n hE - ea_n h0) (ea_s hE - ea_s h0) (ea_A w.2.2.1 (ea_n h0) s.heap.size)) (F0 m pc ls (ea_st w.2.2.1 w.2.2.2 st))
theorem ea_goodIn : GoodIn ea_tbl ea_tbl := fun w hw => ⟨hw, good_of_word (List.mem_filter.mp hw).2⟩
def ea_args : Nat → List ea_V → List (Nat × ea_V)
  | _, [] => []
  | i, v :: vs => (i, v) :: ea_args (if ea_wide v then i + 2 else i + 1) vs
theorem ea_lvargs (ad ro : Nat → Nat) (vs : List ea_V) : ∀ i, lv_args i (vs.map (ea_v ad ro)) = ea_lv ad ro (ea_args i vs) := by
  induction vs with
  | nil => intro i; rfl
  | cons v vs ih =>
    intro i
    simp only [List.map_cons, lv_args, ea_args]
    rw [ih]
    have hc := ea_wide_cat ad ro v
    cases hw : ea_wide v
    · rw [hw] at hc
      have : ¬ (ea_v ad ro v).category = 2 := by simpa using hc
      simp [this]
    · rw [hw] at hc
      have : (ea_v ad ro v).category = 2 := by simpa using hc
      simp [this]
theorem ea_sllen (ad ro : Nat → Nat) (vs : List ea_V) : (lg_sl (vs.map (ea_v ad ro))).length = (vs.map fun v => if ea_wide v then 2 else 1).sum := by
  induction vs with
  | nil => rfl
  | cons v vs ih =>
    have hc := ea_wide_cat ad ro v
    simp only [List.map_cons, lg_sl, List.flatMap_cons, List.length_append, List.sum_cons] at ih ⊢
    rw [ih]
    cases hw : ea_wide v
    · rw [hw] at hc
      have : ¬ (ea_v ad ro v).category = 2 := by simpa using hc
      simp [this]
    · rw [hw] at hc
      have : (ea_v ad ro v).category = 2 := by simpa using hc
      simp [this]
/-- from the walk to the contract -/
theorem ea_enter {M : ea_M} {d : Nat} {vs : List ea_V} {h : ea_H} {rv : Option ea_V} {h' : ea_H} (hp : plainName M.1.cls = true) (hlen : (vs.map fun v => if ea_wide v then 2 else 1).sum ≤ M.2.2.1) (k : ea_W M d h rv h' 0 (ea_args 0 vs) [] h) : ea_Met M d vs h rv h' := by
  refine ⟨k.1, k.2.1, k.2.2.1, fun l w sz => ?_⟩
  refine Met.ofW (cc := M.2.1) (maxL := M.2.2.1) (ret := M.2.2.2) hp rfl ?_
  intro p e s m args below meth c s₁ B hml hv
  obtain ⟨rfl, hsz, hK, hP, hX, hA⟩ := hv
  subst hsz
  have hts := atoms_spec (ws := Cond.code M.1 M.2.1 M.2.2.1 M.2.2.2 :: ea_tbl) B.pre
  have hC : ea_Ctx M p s m (vs.map (ea_v w.2.2.1 w.2.2.2)).toArray meth c := ⟨⟨B.exec, B.bytes, hml, findClass_of_methodNamed B.named, fun x hx => hts x (List.mem_cons_of_mem _ hx)⟩, B.returns, B.notSynchronized, (name_of_methodNamed B.named B.method).1⟩
  have hl := lv_entry (vs.map (ea_v w.2.2.1 w.2.2.2)) (n := M.2.2.1) (by rw [ea_sllen]; exact hlen)
  rw [lg_entry_eq]
  rw [ea_lvargs] at hl
  have h1 := k.2.2.2 p l e s m _ below meth c w s.heap [] _ hC hA hK hX (Nat.le_refl _) (Nat.le_refl _) rfl hP va_S.rf hl rfl
  rw [Nat.sub_self, Nat.sub_self] at h1
  exact h1
