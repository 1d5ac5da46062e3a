/-! what stays, once more -/
theorem kp_tw {α : Type} {c : ((Nat × Nat) × Nat × (Nat → Int32)) × (Nat → Nat) × (Nat → Nat) × (Nat → Nat → Option Nat)} {h : ea_H} {A : Option (α × ea_H)} (k : kp (ea_core h) A) (e : ea_core h = c) : kp c A := e ▸ k
