def bVq : bV → bV → Bool
  | .inl k, .inl m => Nat.beq k m
  | .inr (.inl p), .inr (.inl q) => (match Nat.beq p.1 q.1 with
    | true => Nat.beq p.2 q.2
    | false => false)
  | _, _ => false
