/-- what is at least m -/
def bFlr (E : bE) (v : bV) (m : Nat) : Option bE := match v with
  | .inl k => (match Nat.ble m (Nat.add k bB) with
    | true => some E
    | false => none)
  | .inr (.inl q) => (match lAt E q.1 with
    | some r => (match Nat.ble m (Nat.add r.2 q.2) with
      | true => (match Nat.ble m (Nat.add r.1 q.2) with
        | true => some E
        | false => lPut E q.1 (Nat.sub m q.2, r.2))
      | false => none)
    | none => none)
  | _ => none
