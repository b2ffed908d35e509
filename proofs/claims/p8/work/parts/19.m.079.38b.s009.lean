theorem nd_3 {U x y z a b c : Nat} (hU : ∀ u, U.testBit u = true ↔ ((u = x ∨ u = y ∨ u = z) ∨ (u = a ∨ u = b ∨ u = c))) (h1 : ¬ x = a ∧ ¬ x = b ∧ ¬ x = c) (h2 : ¬ y = a ∧ ¬ y = b ∧ ¬ y = c) (h3 : ¬ z = a ∧ ¬ z = b ∧ ¬ z = c) : ndif U (m3 x y z) = m3 a b c := by
  apply Nat.eq_of_testBit_eq
  intro u
  rw [nd_test, m3_test, m3_test, Bool.eq_iff_iff, Bool.and_eq_true, hU u, Bool.not_eq_true', decide_eq_false_iff_not, decide_eq_true_iff]
  omega
