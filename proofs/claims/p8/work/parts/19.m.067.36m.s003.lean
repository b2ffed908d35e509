def inv3 (T : sT) (C : Nat → Nat → Prop) : Prop := ∀ u v x y, ¬ T u v = -1 → ¬ x = y → inT T u v x → inT T u v y → (C u v ↔ C x y)
