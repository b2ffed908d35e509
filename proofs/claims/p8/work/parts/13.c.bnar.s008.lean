theorem bCap_s {ρ : List Nat} {E : bE} (hE : bRE ρ E) {v : bV} {a m : Nat} (hv : bNum ρ v = some a) (h : a ≤ m) : ∃ E', bCap E v m = some E' ∧ bRE ρ E' := by
  match v, hv with
  | .inl k, hv =>
    have hv := Option.some.inj hv
    subst hv
    refine ⟨E, ?_, hE⟩
    simp only [bCap]
    rw [show Nat.ble (Nat.add k bB) m = true from Nat.ble_eq.mpr h]
  | .inr (.inl q), hv =>
    simp only [bNum] at hv
    split at hv
    · next r e =>
      have hv := Option.some.inj hv
      subst hv
      have h1 : q.1 < E.length := by rw [← hE.1]; exact a_lt e
      obtain ⟨r', g1, g2, g3⟩ := hE.2 q.1 E[q.1].1 E[q.1].2 (List.getElem?_eq_getElem h1)
      rw [e] at g1
      cases g1
      simp only [bCap, lAt_eq, List.getElem?_eq_getElem h1]
      rw [show Nat.ble (Nat.add E[q.1].1 q.2) m = true from Nat.ble_eq.mpr (by show E[q.1].1 + q.2 ≤ m; omega)]
      dsimp only
      split
      · exact ⟨E, rfl, hE⟩
      · obtain ⟨E', e'⟩ := lPut_ex (E[q.1].1, Nat.sub m q.2) (List.getElem?_eq_getElem h1)
        exact ⟨E', e', bRE_put hE e' e g2 (by show r ≤ m - q.2; omega)⟩
    · cases hv
