theorem bLqs_s {ρ : List Nat} : ∀ {R : bRt} {E : bE}, bRE ρ E → (∀ r ∈ R, ∃ a b, bNum ρ r.1 = some a ∧ bNum ρ r.2 = some b ∧ a ≤ b) → ∃ E', bLqs E R = some E' ∧ bRE ρ E'
  | [], E, hE, _ => ⟨E, rfl, hE⟩
  | r :: R, E, hE, hR => by
    obtain ⟨a, b, h1, h2, h3⟩ := hR r List.mem_cons_self
    obtain ⟨E1, e1, hE1⟩ := bLq_s hE h1 h2 h3
    obtain ⟨E2, e2, hE2⟩ := bLqs_s (R := R) hE1 (fun r hr => hR r (List.mem_cons_of_mem _ hr))
    exact ⟨E2, by unfold bLqs; rw [e1]; exact e2, hE2⟩
