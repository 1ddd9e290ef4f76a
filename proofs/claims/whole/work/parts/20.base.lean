-- BASE: small helps
theorem ax_bifE {b : Bool} {P Q : Prop} (h : bif b then P else Q) : (b = true ∧ P) ∨ (b = false ∧ Q) := by
  cases b with
  | true => exact Or.inl ⟨rfl, h⟩
  | false => exact Or.inr ⟨rfl, h⟩
