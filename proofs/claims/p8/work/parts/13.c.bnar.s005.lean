theorem bRE_put {ρ : List Nat} {E E' : bE} (hE : bRE ρ E) {i : Nat} {q : Nat × Nat} {r : Nat} (h : lPut E i q = some E') (hr : ρ[i]? = some r) (h1 : q.1 ≤ r) (h2 : r ≤ q.2) : bRE ρ E' := by
  obtain ⟨-, g1, g2⟩ := lPut_s h
  refine ⟨by rw [lPut_len h]; exact hE.1, fun j a b e => ?_⟩
  by_cases hj : j = i
  · subst hj
    rw [← lAt_eq, g1] at e
    cases e
    exact ⟨r, hr, h1, h2⟩
  · rw [← lAt_eq, g2 j hj, lAt_eq] at e
    exact hE.2 j a b e
