/-! ===== inRange ===== -/
theorem m_inRange {G : Nat → Option amM} {hp : amH} (v lo hi : Int32) (f d kc ks : Nat) :
    amRun G none (f + 12) d am_m196 am_m196.1 0 [(0, .int v), (1, .int lo), (2, .int hi)] [] hp kc ks = some (.inl (some (.int (if lo ≤ v ∧ v ≤ hi then 1 else 0))), hp, kc, ks) := by
  by_cases h1 : v < lo
  · have h2 : ¬ lo ≤ v := fun z => by have a := Int32.lt_iff_toInt_lt.mp h1; have b := Int32.le_iff_toInt_le.mp z; omega
    simp [am_m196, amRun, amDo, amStep, amLd, amGet, isI_int, f4_2, f4_3, amNext, amCmp, amCmpP, amSeek, h1, h2, amRetV, narrow]
  · have h2 : lo ≤ v := Int32.le_iff_toInt_le.mpr (by have a : ¬ v.toInt < lo.toInt := fun z => h1 (Int32.lt_iff_toInt_lt.mpr z); omega)
    by_cases h3 : hi < v
    · have h4 : ¬ v ≤ hi := fun z => by have a := Int32.lt_iff_toInt_lt.mp h3; have b := Int32.le_iff_toInt_le.mp z; omega
      simp [am_m196, amRun, amDo, amStep, amLd, amGet, isI_int, f4_2, f4_3, amNext, amCmp, amCmpP, amSeek, h1, h2, h3, h4, amRetV, narrow]
    · have h4 : v ≤ hi := Int32.le_iff_toInt_le.mpr (by have a : ¬ hi.toInt < v.toInt := fun z => h3 (Int32.lt_iff_toInt_lt.mpr z); omega)
      simp [am_m196, amRun, amDo, amStep, amLd, amGet, isI_int, f4_2, f4_3, amNext, amCmp, amCmpP, amSeek, h1, h2, h3, h4, amRetV, narrow]
