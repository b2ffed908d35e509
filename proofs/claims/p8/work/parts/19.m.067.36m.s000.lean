/-! ===== clear and force bring the same on both sides (pure) ===== -/
abbrev inT (T : sT) (u v i : Nat) : Prop := i = u ∨ i = v ∨ T u v = (i : Int)
