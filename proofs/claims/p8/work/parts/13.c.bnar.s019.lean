def bSh : bV → bV
  | .inl k => .inl (Nat.add k 1)
  | .inr (.inl q) => .inr (.inl (q.1, Nat.add q.2 1))
  | v => v
