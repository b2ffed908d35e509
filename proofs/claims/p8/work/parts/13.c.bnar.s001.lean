theorem bIvN_s {ρ : List Nat} {E : bE} (hE : bRE ρ E) {v : bV} {q : Nat × Nat} (h : bIvN E v = some q) {m : Nat} (hm : bNum ρ v = some m) : q.1 ≤ m ∧ m ≤ q.2 := by
  match v, h, hm with
  | .inl k, h, hm =>
    have h := Option.some.inj h
    have hm := Option.some.inj hm
    subst h
    subst hm
    exact ⟨Nat.le_refl _, Nat.le_refl _⟩
  | .inr (.inl p), h, hm =>
    simp only [bIvN] at h
    simp only [bNum] at hm
    split at h
    · next s e =>
      have h := Option.some.inj h
      subst h
      rw [lAt_eq] at e
      obtain ⟨r, g1, g2, g3⟩ := hE.2 p.1 s.1 s.2 e
      rw [g1] at hm
      have hm := Option.some.inj hm
      subst hm
      exact ⟨Nat.add_le_add_right g2 _, Nat.add_le_add_right g3 _⟩
    · cases h
