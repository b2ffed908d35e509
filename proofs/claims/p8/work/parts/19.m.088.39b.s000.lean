/-! ===== the reference switches a quadrilateral ===== -/
theorem lfL_app {p : Nat} : ∀ {A : List Nat} {l m : Nat}, lfL p l (A ++ [m]) = if m.testBit p = true then ndif (lfL p l A) m else lfL p l A
  | [], _, _ => rfl
  | a :: r, l, m => lfL_app (p := p) (A := r) (l := if a.testBit p = true then ndif l a else l) (m := m)
