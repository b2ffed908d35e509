/-! ===== ways by hand: walks ===== -/
def ab (a b k : Nat) : Nat := if k % 2 = 0 then a else b
