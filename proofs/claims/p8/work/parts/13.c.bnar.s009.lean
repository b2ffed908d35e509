theorem bFlr_s {ρ : List Nat} {E : bE} (hE : bRE ρ E) {v : bV} {a m : Nat} (hv : bNum ρ v = some a) (h : m ≤ a) : ∃ E', bFlr E v m = some E' ∧ bRE ρ E' := by
  match v, hv with
  | .inl k, hv =>
    have hv := Option.some.inj hv
    subst hv
    refine ⟨E, ?_, hE⟩
    simp only [bFlr]
    rw [show Nat.ble m (Nat.add k bB) = true from Nat.ble_eq.mpr h]
  | .inr (.inl q), hv =>
    simp only [bNum] at hv
    split at hv
    · next r e =>
      have hv := Option.some.inj hv
      subst hv
      have h1 : q.1 < E.length := by rw [← hE.1]; exact a_lt e
      obtain ⟨r', g1, g2, g3⟩ := hE.2 q.1 E[q.1].1 E[q.1].2 (List.getElem?_eq_getElem h1)
      rw [e] at g1
      cases g1
      simp only [bFlr, lAt_eq, List.getElem?_eq_getElem h1]
      rw [show Nat.ble m (Nat.add E[q.1].2 q.2) = true from Nat.ble_eq.mpr (by show m ≤ E[q.1].2 + q.2; omega)]
      dsimp only
      split
      · exact ⟨E, rfl, hE⟩
      · obtain ⟨E', e'⟩ := lPut_ex (Nat.sub m q.2, E[q.1].2) (List.getElem?_eq_getElem h1)
        exact ⟨E', e', bRE_put hE e' e (by show m - q.2 ≤ r; omega) g3⟩
    · cases hv
