theorem tkn_0 (T : sT) : tkn T T (fun _ _ => False) := fun u v => by
  by_cases h : T u v = -1
  · exact Or.inl ⟨h, Or.inl h⟩
  · exact Or.inr ⟨rfl, h, id⟩
