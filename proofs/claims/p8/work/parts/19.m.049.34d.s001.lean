theorem rqN_to {hp : amH} {T : sT} {n m : Nat} (h : rqN hp T n) (e : fL (qdB T) m = fL (qdB T) n) : rqN hp T m := by
  unfold rqN
  rw [e]
  exact h
