def qC (T : sT) (n : Nat) : List Nat := [ndif (qU T n) (mN T (n / 1225)), ndif (qU T n) (mN T (n / 35 % 35)), ndif (qU T n) (mN T (n % 35)), ndif (qU T n) (mN T (ql T n))]
