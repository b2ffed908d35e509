def bSym : bV → Bool
  | .inr (.inl _) => true
  | _ => false
