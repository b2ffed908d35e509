/-- the first is at most the second -/
def bLq (E : bE) (u v : bV) : Option bE := match bIvN E v with
  | some q => (match bCap E u q.2 with
    | some E1 => (match bIvN E1 u with
      | some p => bFlr E1 v p.1
      | none => none)
    | none => none)
  | none => none
