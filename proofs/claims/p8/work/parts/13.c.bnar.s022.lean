theorem bVq_s {u v : bV} (h : bVq u v = true) : u = v := by
  unfold bVq at h
  split at h
  · rw [Nat.eq_of_beq_eq_true h]
  · next p q =>
    split at h
    · next e =>
      have e1 := Nat.eq_of_beq_eq_true e
      have e2 := Nat.eq_of_beq_eq_true h
      rw [show p = q from Prod.ext e1 e2]
    · cases h
  · cases h
