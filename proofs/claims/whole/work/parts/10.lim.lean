/-! functions that may have no answer; machines of blocks; what stays -/
noncomputable def gd {α : Type} (P : Prop) (A : Option α) : Option α := @ite _ P (Classical.propDecidable P) A none
theorem gd_some {α : Type} {P : Prop} {A : Option α} {x : α} (h : gd P A = some x) : P ∧ A = some x := by
  unfold gd at h
  split at h
  · exact ⟨by assumption, h⟩
  · cases h
theorem gd_pos {α : Type} {P : Prop} {A : Option α} (h : P) : gd P A = A := by unfold gd; rw [if_pos h]
def ea_let {α β : Type} (x : α) (f : α → β) : β := f x
theorem let_some {α β : Type} {x : α} {f : α → Option β} {r : β} (h : ea_let x f = some r) : ∃ y, y = x ∧ f y = some r := ⟨x, rfl, h⟩
theorem bd_some {α β : Type} {A : Option α} {f : α → Option β} {x : β} (h : Option.bind A f = some x) : ∃ y, A = some y ∧ f y = some x := by
  cases A with
  | none => cases h
  | some y => exact ⟨y, rfl, h⟩
theorem no_some {α : Type} {x : α} {C : Prop} (E : none = some x) : C := nomatch E
/-! an answer with a property -/
def sat {α : Type} (A : Option α) (P : α → Prop) : Prop := ∃ x, A = some x ∧ P x
theorem sat_ret {α : Type} {x : α} {P : α → Prop} (h : P x) : sat (some x) P := ⟨x, rfl, h⟩
theorem sat_mono {α : Type} {A : Option α} {P Q : α → Prop} (h : sat A P) (hpq : ∀ x, P x → Q x) : sat A Q := by
  obtain ⟨x, e, hp⟩ := h
  exact ⟨x, e, hpq x hp⟩
theorem sat_ite {α : Type} {c : Prop} {_ : Decidable c} {A B : Option α} {P : α → Prop} (h1 : c → sat A P) (h2 : ¬ c → sat B P) : sat (if c then A else B) P := by
  split
  · exact h1 (by assumption)
  · exact h2 (by assumption)
theorem sat_pos {α : Type} {c : Prop} {_ : Decidable c} {A B : Option α} {P : α → Prop} (h : c) (h1 : sat A P) : sat (if c then A else B) P := by rw [if_pos h]; exact h1
theorem sat_neg {α : Type} {c : Prop} {_ : Decidable c} {A B : Option α} {P : α → Prop} (h : ¬ c) (h1 : sat B P) : sat (if c then A else B) P := by rw [if_neg h]; exact h1
theorem sat_gd {α : Type} {c : Prop} {A : Option α} {P : α → Prop} (h : c) (h1 : sat A P) : sat (gd c A) P := by rw [gd_pos h]; exact h1
theorem sat_let {α β : Type} {v : α} {f : α → Option β} {P : β → Prop} (h : ∀ y, y = v → sat (f y) P) : sat (ea_let v f) P := h v rfl
theorem sat_sub {α β : Type} {v : α} {f : α → Option β} {P : β → Prop} (h : sat (f v) P) : sat (ea_let v f) P := h
theorem sat_bind {α β : Type} {A : Option α} {f : α → Option β} {Q : α → Prop} {P : β → Prop} (h : sat A Q) (k : ∀ y, Q y → sat (f y) P) : sat (Option.bind A f) P := by
  obtain ⟨x, e, hq⟩ := h
  subst e
  exact k x hq
theorem sat_call {α β : Type} {A : Option α} {f : α → Option β} {x : α} {P : β → Prop} (h : A = some x) (k : sat (f x) P) : sat (Option.bind A f) P := by
  subst h
  exact k
/-! the flat order: whoever has an answer keeps it -/
def fle {α : Type} (A B : Option α) : Prop := ∀ x, A = some x → B = some x
theorem fle_rfl {α : Type} (A : Option α) : fle A A := fun _ h => h
theorem fle_none {α : Type} (A : Option α) : fle none A := fun _ h => nomatch h
theorem fle_ite {α : Type} {c : Prop} {_ : Decidable c} {A B A' B' : Option α} (h1 : fle A A') (h2 : fle B B') : fle (if c then A else B) (if c then A' else B') := by
  split
  · exact h1
  · exact h2
theorem fle_gd {α : Type} {c : Prop} {A A' : Option α} (h1 : fle A A') : fle (gd c A) (gd c A') := by
  intro x h
  obtain ⟨hc, h⟩ := gd_some h
  rw [gd_pos hc]
  exact h1 x h
theorem fle_let {α β : Type} {v : α} {f f' : α → Option β} (h : ∀ y, fle (f y) (f' y)) : fle (ea_let v f) (ea_let v f') := h v
theorem fle_bind {α β : Type} {A A' : Option α} {f f' : α → Option β} (h1 : fle A A') (h : ∀ y, fle (f y) (f' y)) : fle (Option.bind A f) (Option.bind A' f') := by
  intro x e
  obtain ⟨y, e1, e2⟩ := bd_some e
  rw [h1 y e1]
  exact h y x e2
/-! from some number of steps on -/
def fct {α : Type} (A : Option α) (F : Nat → Option α) : Prop := ∀ x, A = some x → ∃ n, ∀ f, n ≤ f → F f = some x
theorem fct_rfl {α : Type} (A : Option α) : fct A (fun _ => A) := fun _ h => ⟨0, fun _ _ => h⟩
theorem fct_ite {α : Type} {c : Prop} {_ : Decidable c} {A B : Option α} {F G : Nat → Option α} (h1 : fct A F) (h2 : fct B G) : fct (if c then A else B) (fun f => if c then F f else G f) := by
  by_cases hc : c
  · simp only [if_pos hc]
    exact h1
  · simp only [if_neg hc]
    exact h2
theorem fct_gd {α : Type} {c : Prop} {A : Option α} {F : Nat → Option α} (h1 : fct A F) : fct (gd c A) (fun f => gd c (F f)) := by
  intro x h
  obtain ⟨hc, h⟩ := gd_some h
  obtain ⟨n, hn⟩ := h1 x h
  exact ⟨n, fun f hf => by show gd c (F f) = some x; rw [gd_pos hc]; exact hn f hf⟩
theorem fct_let {α β : Type} {v : α} {A : α → Option β} {F : Nat → α → Option β} (h : ∀ y, fct (A y) (fun f => F f y)) : fct (ea_let v A) (fun f => ea_let v (F f)) := h v
theorem fct_bind {α β : Type} {Q : Option α} {R : Nat → Option α} {A : α → Option β} {F : Nat → α → Option β} (h1 : fct Q R) (h : ∀ y, fct (A y) (fun f => F f y)) : fct (Option.bind Q A) (fun f => Option.bind (R f) (F f)) := by
  intro x e
  obtain ⟨y, e1, e2⟩ := bd_some e
  obtain ⟨n, hn⟩ := h1 y e1
  obtain ⟨k, hk⟩ := h y x e2
  refine ⟨max n k, fun f hf => ?_⟩
  show (R f).bind (F f) = some x
  rw [hn f (Nat.le_trans (Nat.le_max_left _ _) hf)]
  exact hk f (Nat.le_trans (Nat.le_max_right _ _) hf)
noncomputable def flim {α : Type} (F : Nat → Option α) : Option α := @dite _ (∃ f x, F f = some x) (Classical.propDecidable _) (fun h => F (Classical.choose h)) (fun _ => none)
theorem fle_up {α : Type} {F : Nat → Option α} (hm : ∀ f, fle (F f) (F (f + 1))) {f g : Nat} (h : f ≤ g) : fle (F f) (F g) := by
  induction h with
  | refl => exact fle_rfl _
  | step _ ih => exact fun x e => hm _ x (ih x e)
theorem flim_at {α : Type} {F : Nat → Option α} (hm : ∀ f, fle (F f) (F (f + 1))) {f : Nat} {x : α} (h : F f = some x) : flim F = some x := by
  have hx : ∃ f x, F f = some x := ⟨f, x, h⟩
  unfold flim
  rw [dif_pos hx]
  obtain ⟨y, hy⟩ := Classical.choose_spec hx
  have h1 := fle_up hm (Nat.le_max_left (Classical.choose hx) f) y hy
  have h2 := fle_up hm (Nat.le_max_right (Classical.choose hx) f) x h
  rw [hy, ← h1, h2]
theorem flim_ct {α : Type} {F : Nat → Option α} (hm : ∀ f, fle (F f) (F (f + 1))) : fct (flim F) F := by
  intro x h
  unfold flim at h
  by_cases hx : ∃ f x, F f = some x
  · rw [dif_pos hx] at h
    exact ⟨_, fun f hf => fle_up hm hf x h⟩
  · rw [dif_neg hx] at h
    cases h
/-! the cells' classes, lengths and references: no call changes them -/
def ea_core (h : ea_H) : ((Nat × Nat) × Nat × (Nat → Int32)) × (Nat → Nat) × (Nat → Nat) × (Nat → Nat → Option Nat) := (h.1, h.2.1, h.2.2.1, h.2.2.2.2.2)
theorem ea_core_eq {h h' : ea_H} (e : ea_core h' = ea_core h) : ea_n h' = ea_n h ∧ ea_c h' = ea_c h ∧ ea_l h' = ea_l h ∧ ea_r h' = ea_r h := by
  unfold ea_core at e
  injection e with e1 e2
  injection e2 with e2 e3
  injection e3 with e3 e4
  exact ⟨by unfold ea_n; rw [e1], e2, e3, e4⟩
def kp {α : Type} (c : ((Nat × Nat) × Nat × (Nat → Int32)) × (Nat → Nat) × (Nat → Nat) × (Nat → Nat → Option Nat)) (A : Option (α × ea_H)) : Prop := ∀ x, A = some x → ea_core x.2 = c
section KP
variable {α β : Type} {c : ((Nat × Nat) × Nat × (Nat → Int32)) × (Nat → Nat) × (Nat → Nat) × (Nat → Nat → Option Nat)}
theorem kp_none (A : ((Nat × Nat) × Nat × (Nat → Int32)) × (Nat → Nat) × (Nat → Nat) × (Nat → Nat → Option Nat)) : kp (α := α) A none := fun _ h => nomatch h
theorem kp_ret {v : α} {h : ea_H} (e : ea_core h = c) : kp c (some (v, h)) := by
  intro x hx
  cases hx
  exact e
theorem kp_to {h : ea_H} {A : Option (α × ea_H)} (e : ea_core h = c) (k : kp (ea_core h) A) : kp c A := e ▸ k
theorem kp_ite {p : Prop} {_ : Decidable p} {A B : Option (α × ea_H)} (h1 : kp c A) (h2 : kp c B) : kp c (if p then A else B) := by
  split
  · exact h1
  · exact h2
theorem kp_gd {p : Prop} {A : Option (α × ea_H)} (h1 : kp c A) : kp c (gd p A) := fun x h => h1 x (gd_some h).2
theorem kp_let {v : β} {f : β → Option (α × ea_H)} (h : kp c (f v)) : kp c (ea_let v f) := h
theorem kp_bind {Q : Option (β × ea_H)} {f : β × ea_H → Option (α × ea_H)} (h1 : kp c Q) (h : ∀ y, ea_core y.2 = c → kp c (f y)) : kp c (Option.bind Q f) := by
  intro x e
  obtain ⟨y, e1, e2⟩ := bd_some e
  exact h y (h1 y e1) x e2
end KP
