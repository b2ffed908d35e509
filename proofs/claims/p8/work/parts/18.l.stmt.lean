/-! ===== ways by hand: points read, statements ===== -/
def wTK : List (Nat × Nat) := [(66, 24), (66, 25), (66, 26), (66, 27), (66, 28), (66, 29), (81, 999)]
