/-- the points of a quadrilateral's triples and their opposites -/
theorem op_all {V : Nat} {T : sT} (hT : sOk V T) {q k : Nat} (hq : q < nQ T) (hk : k < 4) : (∀ r, r < 3 → c3 T ((qL T (cQ2 T q)).getD k 0) r < V ∧ opL T (cQ2 T q) (c3 T ((qL T (cQ2 T q)).getD k 0) r) = 2 ^ oppQ T (cQ2 T q) (c3 T ((qL T (cQ2 T q)).getD k 0) r) ∧ oppQ T (cQ2 T q) (c3 T ((qL T (cQ2 T q)).getD k 0) r) < V) ∧ (qC T (cQ2 T q)).getD k 0 = m3 (oppQ T (cQ2 T q) (c3 T ((qL T (cQ2 T q)).getD k 0) 0)) (oppQ T (cQ2 T q) (c3 T ((qL T (cQ2 T q)).getD k 0) 1)) (oppQ T (cQ2 T q) (c3 T ((qL T (cQ2 T q)).getD k 0) 2)) ∧ ¬ oppQ T (cQ2 T q) (c3 T ((qL T (cQ2 T q)).getD k 0) 0) = oppQ T (cQ2 T q) (c3 T ((qL T (cQ2 T q)).getD k 0) 1) ∧ ¬ oppQ T (cQ2 T q) (c3 T ((qL T (cQ2 T q)).getD k 0) 1) = oppQ T (cQ2 T q) (c3 T ((qL T (cQ2 T q)).getD k 0) 2) ∧ ¬ oppQ T (cQ2 T q) (c3 T ((qL T (cQ2 T q)).getD k 0) 0) = oppQ T (cQ2 T q) (c3 T ((qL T (cQ2 T q)).getD k 0) 2) := by
  obtain ⟨g1, g2, g3⟩ := fL_get (B := qdB T) 42875 q hq
  obtain ⟨l1, l2, l3, l4⟩ := qL_lt hT hq k hk
  obtain ⟨s1, s2, s3, s4, s5⟩ := c3_s hT l1
  obtain ⟨o1, o2, o3, o4, o5⟩ := opp_3 hT g2 g1 l2 s4 (by omega) (by omega) (by omega)
  refine ⟨fun r hr => ?_, l4.trans o2, o3, o4, o5⟩
  have : r = 0 ∨ r = 1 ∨ r = 2 := by omega
  rcases this with rfl | rfl | rfl
  · exact ⟨by omega, (o1 _ (Or.inl rfl)).2⟩
  · exact ⟨by omega, (o1 _ (Or.inr (Or.inl rfl))).2⟩
  · exact ⟨by omega, (o1 _ (Or.inr (Or.inr rfl))).2⟩
