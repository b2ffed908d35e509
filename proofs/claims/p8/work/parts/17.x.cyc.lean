/-! ===== ways by hand: cycles laid ===== -/
theorem u225 : bUp 0 am_m225.1 = true := by decide +kernel
theorem u226 : bUp 0 am_m226.1 = true := by decide +kernel
theorem u228 : bUp 0 am_m228.1 = true := by decide +kernel
theorem u230 : bUp 0 am_m230.1 = true := by decide +kernel
