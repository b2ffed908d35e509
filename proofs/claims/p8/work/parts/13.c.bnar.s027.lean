theorem bNeg_s (c : Jvm.ClassFile.Cond) (x y : Int32) : amCmpP (bNeg c) x y = !amCmpP c x y := by
  cases c <;> simp only [amCmpP, bNeg]
  · by_cases h : x = y <;> simp [h]
  · by_cases h : x = y <;> simp [h]
  · by_cases h : x < y
    · have : ¬ y ≤ x := fun z => by have := Int32.lt_iff_toInt_lt.mp h; have := Int32.le_iff_toInt_le.mp z; omega
      simp [h, this]
    · have : y ≤ x := Int32.le_iff_toInt_le.mpr (by have : ¬ x.toInt < y.toInt := fun z => h (Int32.lt_iff_toInt_lt.mpr z); omega)
      simp [h, this]
  · by_cases h : x < y
    · have : ¬ y ≤ x := fun z => by have := Int32.lt_iff_toInt_lt.mp h; have := Int32.le_iff_toInt_le.mp z; omega
      simp [h, this]
    · have : y ≤ x := Int32.le_iff_toInt_le.mpr (by have : ¬ x.toInt < y.toInt := fun z => h (Int32.lt_iff_toInt_lt.mpr z); omega)
      simp [h, this]
  · by_cases h : y < x
    · have : ¬ x ≤ y := fun z => by have := Int32.lt_iff_toInt_lt.mp h; have := Int32.le_iff_toInt_le.mp z; omega
      simp [h, this]
    · have : x ≤ y := Int32.le_iff_toInt_le.mpr (by have : ¬ y.toInt < x.toInt := fun z => h (Int32.lt_iff_toInt_lt.mpr z); omega)
      simp [h, this]
  · by_cases h : y < x
    · have : ¬ x ≤ y := fun z => by have := Int32.lt_iff_toInt_lt.mp h; have := Int32.le_iff_toInt_le.mp z; omega
      simp [h, this]
    · have : x ≤ y := Int32.le_iff_toInt_le.mpr (by have : ¬ y.toInt < x.toInt := fun z => h (Int32.lt_iff_toInt_lt.mpr z); omega)
      simp [h, this]
