theorem bGtK_s {ρ : List Nat} {u v : bV} {a b : Nat} (h : bGtK u v = true) (hu : bNum ρ u = some a) (hv : bNum ρ v = some b) : b < a := by
  unfold bGtK at h
  split at h
  · next p =>
    split at h
    · next q =>
      split at h
      · next e =>
        have e := Nat.eq_of_beq_eq_true e
        have h := a_lt1 h
        simp only [bNum] at hu hv
        rw [e] at hu
        split at hv
        · next r e2 =>
          rw [e2] at hu
          have hu := Option.some.inj hu
          have hv := Option.some.inj hv
          omega
        · cases hv
      · cases h
    · cases h
  · cases h
