/-- a quadrilateral's points, its triples, and those that the switch brings -/
def qU (T : sT) (n : Nat) : Nat := mN T (n / 1225) ||| mN T (n / 35 % 35) ||| qR T n
