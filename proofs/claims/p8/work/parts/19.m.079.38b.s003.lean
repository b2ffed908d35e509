abbrev ql (T : sT) (n : Nat) : Nat := (nmT T (qR T n)).toNat
