/-- the numbers of a quadrilateral's triples in the reference's row -/
theorem rq_get {hp : amH} {V : Nat} {T : sT} (hT : sOk V T) (hQ : rqN hp T 42875) {q : Nat} (hq : q < nQ T) : (∀ k, k < 4 → rN hp 76 (4 * q + k) = (((qL T (cQ2 T q)).getD k 0 : Nat) : Int)) ∧ rN hp 66 14 = ((nQ T : Nat) : Int) := by
  obtain ⟨g1, g2, g3⟩ := fL_get (B := qdB T) 42875 q hq
  obtain ⟨-, -, e, -⟩ := qd_X hT g2 g1
  obtain ⟨Q1, Q2⟩ := hQ
  obtain ⟨a, b, c, d⟩ := Q2 q hq
  refine ⟨fun k hk => ?_, Q1⟩
  have : k = 0 ∨ k = 1 ∨ k = 2 ∨ k = 3 := by omega
  rcases this with rfl | rfl | rfl | rfl
  · exact a
  · exact b
  · exact c
  · exact d.trans e
