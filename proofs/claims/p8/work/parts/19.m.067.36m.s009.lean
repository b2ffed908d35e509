theorem dP_tkn {V : Nat} {B : Nat → Bool} {T : sT} (hT : sOk V T) : tkn T (dP B T 225) (fun u v => B (cd T u v) = true) := fun u v => by
  rcases (dP_s (B := B) hT 225).2 u v with ⟨a, b⟩ | ⟨a, b, c⟩
  · exact Or.inl ⟨a, b.imp id (fun k => k.2)⟩
  · exact Or.inr ⟨a, b, fun k => c ⟨cd_lt hT b, k⟩⟩
