theorem tkn_eq {T S S1 : sT} {C C1 : Nat → Nat → Prop} (h : tkn T S C) (h1 : tkn T S1 C1) (e : ∀ u v, ¬ T u v = -1 → (C u v ↔ C1 u v)) : S = S1 := by
  funext u v
  rcases h u v with ⟨a, b⟩ | ⟨a, b, c⟩
  · rcases h1 u v with ⟨a1, b1⟩ | ⟨a1, b1, c1⟩
    · rw [a, a1]
    · rcases b with b | b
      · exact absurd b b1
      · exact absurd ((e u v b1).mp b) c1
  · rcases h1 u v with ⟨a1, b1⟩ | ⟨a1, b1, c1⟩
    · rcases b1 with b1 | b1
      · exact absurd b1 b
      · exact absurd ((e u v b).mpr b1) c
    · rw [a, a1]
