theorem bSh_s {ρ : List Nat} {v : bV} {a : Nat} (h : bNum ρ v = some a) : bNum ρ (bSh v) = some (a + 1) := by
  match v, h with
  | .inl k, h =>
    have h := Option.some.inj h
    subst h
    show some (k + 1 + bB) = some (k + bB + 1)
    rw [Nat.add_right_comm]
  | .inr (.inl q), h =>
    simp only [bNum, bSh] at h ⊢
    split at h
    · next r e =>
      have h := Option.some.inj h
      subst h
      rfl
    · cases h
