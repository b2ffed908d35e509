/-- a point of a triple by its place -/
def c3 (T : sT) (t r : Nat) : Nat := if r = 0 then (trL T 225).getD t 0 / 15 else if r = 1 then (trL T 225).getD t 0 % 15 else (T ((trL T 225).getD t 0 / 15) ((trL T 225).getD t 0 % 15)).toNat
