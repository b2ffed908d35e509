/-! ===== rising numbers among all orders (pure) ===== -/
/-- whether four numbers stand so doesn't hang on their order, and no two are the same -/
def sym4 (X : Nat → Nat → Nat → Nat → Prop) : Prop := (∀ i j k l, X i j k l → X j i k l) ∧ (∀ i j k l, X i j k l → X i k j l) ∧ (∀ i j k l, X i j k l → X i j l k) ∧ ∀ i j k l, X i j k l → ¬ i = j ∧ ¬ i = k ∧ ¬ i = l ∧ ¬ j = k ∧ ¬ j = l ∧ ¬ k = l
theorem sym_a {n : Nat} {X : Nat → Nat → Nat → Nat → Prop} [∀ i j k l, Decidable (X i j k l)] (h : sym4 X) : s4 n (fun i j k l => iv (X i j k l)) = 2 * s4 n (fun i j k l => iv (X i j k l ∧ i < j)) := by
  have e : s4 n (fun i j k l => iv (X i j k l)) = s4 n (fun i j k l => iv (X i j k l ∧ i < j) + iv (X j i k l ∧ j < i)) := s4_ext (fun i j k l _ _ _ _ => by
    rw [← iv_or (by omega)]
    exact iv_eq ⟨fun z => by
      have := (h.2.2.2 _ _ _ _ z).1
      rcases Nat.lt_or_gt_of_ne this with g | g
      · exact Or.inl ⟨z, g⟩
      · exact Or.inr ⟨h.1 _ _ _ _ z, g⟩, fun z => by
      rcases z with z | z
      · exact z.1
      · exact h.1 _ _ _ _ z.1⟩)
  rw [e, s4_add, s4_12 (fun i j k l => iv (X i j k l ∧ i < j))]
  omega
theorem sym_b {n : Nat} {X : Nat → Nat → Nat → Nat → Prop} [∀ i j k l, Decidable (X i j k l)] (h : sym4 X) : s4 n (fun i j k l => iv (X i j k l ∧ i < j)) = 3 * s4 n (fun i j k l => iv (X i j k l ∧ i < j ∧ j < k)) := by
  have e : s4 n (fun i j k l => iv (X i j k l ∧ i < j)) = s4 n (fun i j k l => (iv (X i j k l ∧ i < j ∧ j < k) + iv (X i k j l ∧ i < k ∧ k < j)) + iv (X k i j l ∧ k < i ∧ i < j)) := s4_ext (fun i j k l _ _ _ _ => by
    rw [← iv_or (by omega), ← iv_or (by omega)]
    exact iv_eq ⟨fun z => by
      have q := h.2.2.2 _ _ _ _ z.1
      have z2 := h.2.1 _ _ _ _ z.1
      have z3 := h.1 _ _ _ _ z2
      rcases Nat.lt_or_gt_of_ne q.2.2.2.1 with g | g
      · exact Or.inl (Or.inl ⟨z.1, z.2, g⟩)
      · rcases Nat.lt_or_gt_of_ne q.2.1 with g2 | g2
        · exact Or.inl (Or.inr ⟨z2, g2, g⟩)
        · exact Or.inr ⟨z3, g2, z.2⟩, fun z => by
      rcases z with (z | z) | z
      · exact ⟨z.1, z.2.1⟩
      · exact ⟨h.2.1 _ _ _ _ z.1, by omega⟩
      · exact ⟨h.2.1 _ _ _ _ (h.1 _ _ _ _ z.1), z.2.2⟩⟩)
  have e1 : s4 n (fun i j k l => iv (X i k j l ∧ i < k ∧ k < j)) = s4 n (fun i j k l => iv (X i j k l ∧ i < j ∧ j < k)) := s4_23 (fun i j k l => iv (X i j k l ∧ i < j ∧ j < k))
  have e2 : s4 n (fun i j k l => iv (X k i j l ∧ k < i ∧ i < j)) = s4 n (fun i j k l => iv (X i j k l ∧ i < j ∧ j < k)) :=
    (s4_23 (fun i j k l => iv (X j i k l ∧ j < i ∧ i < k))).trans (s4_12 (fun i j k l => iv (X i j k l ∧ i < j ∧ j < k)))
  rw [e, s4_add, s4_add, e1, e2]
  omega
theorem sym_c {n : Nat} {X : Nat → Nat → Nat → Nat → Prop} [∀ i j k l, Decidable (X i j k l)] (h : sym4 X) : s4 n (fun i j k l => iv (X i j k l ∧ i < j ∧ j < k)) = 4 * s4 n (fun i j k l => iv (X i j k l ∧ i < j ∧ j < k ∧ k < l)) := by
  have e : s4 n (fun i j k l => iv (X i j k l ∧ i < j ∧ j < k)) = s4 n (fun i j k l => ((iv (X i j k l ∧ i < j ∧ j < k ∧ k < l) + iv (X i j l k ∧ i < j ∧ j < l ∧ l < k)) + iv (X i l j k ∧ i < l ∧ l < j ∧ j < k)) + iv (X l i j k ∧ l < i ∧ i < j ∧ j < k)) := s4_ext (fun i j k l _ _ _ _ => by
    rw [← iv_or (by omega), ← iv_or (by omega), ← iv_or (by omega)]
    exact iv_eq ⟨fun z => by
      have q := h.2.2.2 _ _ _ _ z.1
      have z2 := h.2.2.1 _ _ _ _ z.1
      have z3 := h.2.1 _ _ _ _ z2
      have z4 := h.1 _ _ _ _ z3
      rcases Nat.lt_or_gt_of_ne q.2.2.2.2.2 with g | g
      · exact Or.inl (Or.inl (Or.inl ⟨z.1, z.2.1, z.2.2, g⟩))
      · rcases Nat.lt_or_gt_of_ne q.2.2.2.2.1 with g2 | g2
        · exact Or.inl (Or.inl (Or.inr ⟨z2, z.2.1, g2, g⟩))
        · rcases Nat.lt_or_gt_of_ne q.2.2.1 with g3 | g3
          · exact Or.inl (Or.inr ⟨z3, g3, g2, z.2.2⟩)
          · exact Or.inr ⟨z4, g3, z.2.1, z.2.2⟩, fun z => by
      rcases z with ((z | z) | z) | z
      · exact ⟨z.1, z.2.1, z.2.2.1⟩
      · exact ⟨h.2.2.1 _ _ _ _ z.1, z.2.1, by omega⟩
      · exact ⟨h.2.2.1 _ _ _ _ (h.2.1 _ _ _ _ z.1), by omega, z.2.2.2⟩
      · exact ⟨h.2.2.1 _ _ _ _ (h.2.1 _ _ _ _ (h.1 _ _ _ _ z.1)), z.2.2.1, z.2.2.2⟩⟩)
  have e1 : s4 n (fun i j k l => iv (X i j l k ∧ i < j ∧ j < l ∧ l < k)) = s4 n (fun i j k l => iv (X i j k l ∧ i < j ∧ j < k ∧ k < l)) := s4_34 (fun i j k l => iv (X i j k l ∧ i < j ∧ j < k ∧ k < l))
  have e2 : s4 n (fun i j k l => iv (X i l j k ∧ i < l ∧ l < j ∧ j < k)) = s4 n (fun i j k l => iv (X i j k l ∧ i < j ∧ j < k ∧ k < l)) :=
    (s4_34 (fun i j k l => iv (X i k j l ∧ i < k ∧ k < j ∧ j < l))).trans (s4_23 (fun i j k l => iv (X i j k l ∧ i < j ∧ j < k ∧ k < l)))
  have e3 : s4 n (fun i j k l => iv (X l i j k ∧ l < i ∧ i < j ∧ j < k)) = s4 n (fun i j k l => iv (X i j k l ∧ i < j ∧ j < k ∧ k < l)) :=
    (s4_34 (fun i j k l => iv (X k i j l ∧ k < i ∧ i < j ∧ j < l))).trans ((s4_23 (fun i j k l => iv (X j i k l ∧ j < i ∧ i < k ∧ k < l))).trans (s4_12 (fun i j k l => iv (X i j k l ∧ i < j ∧ j < k ∧ k < l))))
  rw [e, s4_add, s4_add, s4_add, e1, e2, e3]
  omega
/-- four in all orders are 24 times the rising ones -/
theorem sym_24 {n : Nat} {X : Nat → Nat → Nat → Nat → Prop} [∀ i j k l, Decidable (X i j k l)] (h : sym4 X) : s4 n (fun i j k l => iv (X i j k l)) = 24 * s4 n (fun i j k l => iv (X i j k l ∧ i < j ∧ j < k ∧ k < l)) := by
  have a := sym_a (n := n) h
  have b := sym_b (n := n) h
  have c := sym_c (n := n) h
  omega
