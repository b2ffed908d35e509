theorem bNe_s {n : Nat} {ρ : List Nat} {S : bS} {hp : amH} (hS : bRS n ρ S hp) {u v : bV} {a b : Nat} (hu : bNum ρ u = some a) (hv : bNum ρ v = some b) (h : ¬ a = b) : ∃ S', bNe S u v = some S' ∧ bRS n ρ S' hp := by
  obtain ⟨p, e1⟩ := bIvN_some hS.1 hu
  obtain ⟨q, e2⟩ := bIvN_some hS.1 hv
  have h1 := bIvN_s hS.1 e1 hu
  have h2 := bIvN_s hS.1 e2 hv
  unfold bNe
  have hk : bVq u v = false := by
    cases e : bVq u v with
    | false => rfl
    | true => rw [bVq_s e, hv] at hu; cases hu; exact absurd rfl h
  rw [hk, e1]
  dsimp only
  rw [e2]
  dsimp only
  split
  · next e3 =>
    have e3 := Nat.eq_of_beq_eq_true e3
    split
    · next e4 =>
      have e4 := Nat.eq_of_beq_eq_true e4
      obtain ⟨E1, g1, g2⟩ := bFlr_s hS.1 hu (m := Nat.add q.1 1) (by show q.1 + 1 ≤ a; omega)
      rw [g1]
      exact ⟨_, rfl, g2, hS.2⟩
    · split
      · next e4 =>
        have e4 := Nat.eq_of_beq_eq_true e4
        obtain ⟨E1, g1, g2⟩ := bCap_s hS.1 hu (m := Nat.sub q.1 1) (by show a ≤ q.1 - 1; omega)
        rw [g1]
        exact ⟨_, rfl, g2, hS.2⟩
      · exact ⟨_, rfl, hS⟩
  · exact ⟨_, rfl, hS⟩
