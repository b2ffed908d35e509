theorem bLq_s {ρ : List Nat} {E : bE} (hE : bRE ρ E) {u v : bV} {a b : Nat} (hu : bNum ρ u = some a) (hv : bNum ρ v = some b) (h : a ≤ b) : ∃ E', bLq E u v = some E' ∧ bRE ρ E' := by
  obtain ⟨q, e1⟩ := bIvN_some hE hv
  have h1 := bIvN_s hE e1 hv
  obtain ⟨E1, e2, hE1⟩ := bCap_s hE hu (Nat.le_trans h h1.2)
  obtain ⟨p, e3⟩ := bIvN_some hE1 hu
  have h2 := bIvN_s hE1 e3 hu
  obtain ⟨E2, e4, hE2⟩ := bFlr_s hE1 hv (Nat.le_trans h2.1 h)
  exact ⟨E2, by unfold bLq; rw [e1]; dsimp only; rw [e2]; dsimp only; rw [e3]; exact e4, hE2⟩
