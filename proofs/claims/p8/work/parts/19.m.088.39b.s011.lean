/-- what the reference lays for a switch -/
def rpv (T : sT) (n j : Nat) : Nat := if j % 6 < 3 then c3 T ((qL T n).getD (j / 6) 0) (j % 6) else oppQ T n (c3 T ((qL T n).getD (j / 6) 0) (j % 6 - 3))
