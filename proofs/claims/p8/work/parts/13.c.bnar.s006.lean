/-- what is at most m -/
def bCap (E : bE) (v : bV) (m : Nat) : Option bE := match v with
  | .inl k => (match Nat.ble (Nat.add k bB) m with
    | true => some E
    | false => none)
  | .inr (.inl q) => (match lAt E q.1 with
    | some r => (match Nat.ble (Nat.add r.1 q.2) m with
      | true => (match Nat.ble (Nat.add r.2 q.2) m with
        | true => some E
        | false => lPut E q.1 (r.1, Nat.sub m q.2))
      | false => none)
    | none => none)
  | _ => none
