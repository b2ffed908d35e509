theorem qU_lt {V : Nat} {T : sT} (hT : sOk V T) {q : Nat} (hq : q < nQ T) : qU T (cQ2 T q) < 32768 := by
  obtain ⟨g1, g2, g3⟩ := fL_get (B := qdB T) 42875 q hq
  obtain ⟨⟨⟨b1, b2, b3, b4⟩, -⟩, -, -, hRn⟩ := qd_X hT g2 g1
  unfold qU
  rw [hRn]
  exact Nat.or_lt_two_pow (n := 15) (Nat.or_lt_two_pow (n := 15) (mN_lt hT b1).1 (mN_lt hT b2).1) (mN_lt hT b4).1
