theorem lfL_lt {p : Nat} : ∀ {A : List Nat} {l : Nat}, l < 32768 → lfL p l A < 32768
  | [], _, h => h
  | a :: r, l, h => lfL_lt (p := p) (A := r) (by
      split
      · exact nd_lt h
      · exact h)
