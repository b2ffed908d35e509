theorem sx_3 {p a b c d e u v : Nat} (g : sPr p a c u v) : sPr p a b u v ∨ sPr p c d u v ∨ sPr a c e u v ∨ sPr b d e u v := by
  obtain ⟨g0, g1, g2⟩ := g
  rcases g1 with rfl | rfl | rfl <;> rcases g2 with rfl | rfl | rfl <;> first | exact absurd rfl g0 | exact Or.inl ⟨g0, by simp, by simp⟩ | exact Or.inr (Or.inl ⟨g0, by simp, by simp⟩) | exact Or.inr (Or.inr (Or.inl ⟨g0, by simp, by simp⟩)) | exact Or.inr (Or.inr (Or.inr ⟨g0, by simp, by simp⟩))
