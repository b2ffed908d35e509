/-- S is T without the triples of which C says so -/
def tkn (T S : sT) (C : Nat → Nat → Prop) : Prop := ∀ u v, (S u v = -1 ∧ (T u v = -1 ∨ C u v)) ∨ (S u v = T u v ∧ ¬ T u v = -1 ∧ ¬ C u v)
