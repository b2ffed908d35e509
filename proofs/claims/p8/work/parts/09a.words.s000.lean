/-! ===== the words of the throws ===== -/
/-- where TripleTrains links the constructors of its exceptions -/
def amXic : List Nat := [145, 191, 206, 283]
