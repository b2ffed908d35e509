def qG (T : sT) (n : Nat) : List Nat := [mN T (n / 1225), mN T (n / 35 % 35), mN T (n % 35), mN T (ql T n)]
