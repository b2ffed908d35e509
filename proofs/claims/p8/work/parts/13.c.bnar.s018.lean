theorem bLqS_s {n : Nat} {ρ : List Nat} {S : bS} {hp : amH} (hS : bRS n ρ S hp) {u v : bV} {a b : Nat} (hu : bNum ρ u = some a) (hv : bNum ρ v = some b) (h : a ≤ b) : ∃ S', bLqS S u v = some S' ∧ bRS n ρ S' hp := by
  obtain ⟨E1, e1, hE1⟩ := bLq_s hS.1 hu hv h
  obtain ⟨E2, e2, hE2⟩ := bLqs_s hE1 hS.2.2.1
  unfold bLqS
  have hk : bGtK u v = false := by
    cases e : bGtK u v with
    | false => rfl
    | true => have := bGtK_s e hu hv; omega
  rw [hk, e1]
  dsimp only
  rw [e2]
  dsimp only
  have h0 : bRS n ρ (E2, S.2) hp := ⟨hE2, hS.2⟩
  split
  · split
    · refine ⟨_, rfl, hE2, hS.2.1, fun r hr => ?_, hS.2.2.2⟩
      cases hr with
      | head => exact ⟨a, b, hu, hv, h⟩
      | tail _ hr => exact hS.2.2.1 r hr
    · exact ⟨_, rfl, h0⟩
  · exact ⟨_, rfl, h0⟩
