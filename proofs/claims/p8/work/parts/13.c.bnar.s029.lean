theorem bOff_le2 {x y : Int32} : x ≤ y ↔ aOff x ≤ aOff y := by
  have := aOff_eq x
  have := aOff_eq y
  rw [Int32.le_iff_toInt_le]
  omega
