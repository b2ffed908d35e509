theorem lPut_len {α : Type} : ∀ {l l' : List α} {i : Nat} {v : α}, lPut l i v = some l' → l'.length = l.length
  | u :: r, l', 0, v, h => by cases h; rfl
  | u :: r, l', i + 1, v, h => by
    unfold lPut at h
    split at h
    · next r' e => cases h; rw [List.length_cons, List.length_cons, lPut_len e]
    · cases h
