/-! ===== quadrilaterals: four triples, six points ===== -/
def me (B : Nat → Nat × Nat × Nat) (t u : Nat) : Prop := u = (B t).1 ∨ u = (B t).2.1 ∨ u = (B t).2.2
def six (a b c d e f : Nat) (i : Fin 6) : Nat := if i = 0 then a else if i = 1 then b else if i = 2 then c else if i = 3 then d else if i = 4 then e else f
section SX
variable {B : Nat → Nat × Nat × Nat} {P : Fin 6 → Nat}
end SX
