/-! ===== runs over invariants: bounds made narrower by what was compared ===== -/
def bIvN (E : bE) : bV → Option (Nat × Nat)
  | .inl k => some (Nat.add k bB, Nat.add k bB)
  | .inr (.inl q) => (match lAt E q.1 with
    | some r => some (Nat.add r.1 q.2, Nat.add r.2 q.2)
    | none => none)
  | _ => none
