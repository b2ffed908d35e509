theorem bOff_lt {x y : Int32} : x < y ↔ aOff x < aOff y := by
  have := aOff_eq x
  have := aOff_eq y
  rw [Int32.lt_iff_toInt_lt]
  omega
