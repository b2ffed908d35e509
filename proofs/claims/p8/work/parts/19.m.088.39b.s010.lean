theorem c3_r {hp : amH} {V : Nat} {T : sT} (hT : sOk V T) (hL : rlN hp T 225) {t : Nat} (ht : t < (trL T 225).length) : rN hp 72 t = ((c3 T t 0 : Nat) : Int) ∧ rN hp 73 t = ((c3 T t 1 : Nat) : Int) ∧ rN hp 74 t = ((c3 T t 2 : Nat) : Int) := by
  obtain ⟨a, b, c, -⟩ := hL.2 t ht
  obtain ⟨-, -, -, -, e⟩ := c3_s hT ht
  exact ⟨a, b, c.trans e⟩
