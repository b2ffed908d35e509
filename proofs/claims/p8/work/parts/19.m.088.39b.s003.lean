theorem qL_lt {V : Nat} {T : sT} (hT : sOk V T) {q : Nat} (hq : q < nQ T) : ∀ k, k < 4 → (qL T (cQ2 T q)).getD k 0 < (trL T 225).length ∧ mN T ((qL T (cQ2 T q)).getD k 0) ∈ qG T (cQ2 T q) ∧ (qG T (cQ2 T q)).getD k 0 = mN T ((qL T (cQ2 T q)).getD k 0) ∧ (qC T (cQ2 T q)).getD k 0 = ndif (qU T (cQ2 T q)) (mN T ((qL T (cQ2 T q)).getD k 0)) := fun k hk => by
  obtain ⟨g1, g2, g3⟩ := fL_get (B := qdB T) 42875 q hq
  obtain ⟨⟨⟨b1, b2, b3, b4⟩, -⟩, -⟩ := qd_X hT g2 g1
  have : k = 0 ∨ k = 1 ∨ k = 2 ∨ k = 3 := by omega
  rcases this with rfl | rfl | rfl | rfl
  · exact ⟨b1, List.mem_cons_self, rfl, rfl⟩
  · exact ⟨b2, List.mem_cons_of_mem _ List.mem_cons_self, rfl, rfl⟩
  · exact ⟨b3, List.mem_cons_of_mem _ (List.mem_cons_of_mem _ List.mem_cons_self), rfl, rfl⟩
  · exact ⟨b4, List.mem_cons_of_mem _ (List.mem_cons_of_mem _ (List.mem_cons_of_mem _ List.mem_cons_self)), rfl, rfl⟩
