def swQ (T : sT) (n : Nat) : sT := uPs (uTs T (qG T n)) (qC T n)
