abbrev sxP (p a b c d e : Nat) : Prop := (¬ p = a ∧ ¬ p = b ∧ ¬ p = c ∧ ¬ p = d ∧ ¬ p = e) ∧ (¬ a = b ∧ ¬ a = c ∧ ¬ a = d ∧ ¬ a = e) ∧ (¬ b = c ∧ ¬ b = d ∧ ¬ b = e) ∧ (¬ c = d ∧ ¬ c = e) ∧ ¬ d = e
