/-- is the second known to be below the first -/
def bGtK (u v : bV) : Bool := match u with
  | .inr (.inl p) => (match v with
    | .inr (.inl q) => (match Nat.beq p.1 q.1 with
      | true => Nat.ble (Nat.add q.2 1) p.2
      | false => false)
    | _ => false)
  | _ => false
