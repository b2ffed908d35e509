def bLqs (E : bE) : bRt → Option bE
  | [] => some E
  | r :: R => (match bLq E r.1 r.2 with
    | some E1 => bLqs E1 R
    | none => none)
