theorem bIvN_some {ρ : List Nat} {E : bE} (hE : bRE ρ E) {v : bV} {m : Nat} (hm : bNum ρ v = some m) : ∃ q, bIvN E v = some q := by
  match v, hm with
  | .inl k, hm => exact ⟨_, rfl⟩
  | .inr (.inl p), hm =>
    simp only [bNum] at hm
    simp only [bIvN, lAt_eq]
    split at hm
    · next r e =>
      have h1 : p.1 < E.length := by rw [← hE.1]; exact a_lt e
      rw [List.getElem?_eq_getElem h1]
      exact ⟨_, rfl⟩
    · cases hm
