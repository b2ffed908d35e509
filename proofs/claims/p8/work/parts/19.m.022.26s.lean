/-! ===== the class loads a system: what it knows then of the text ===== -/
theorem u115 : bUp 0 am_m115.1 = true := by decide +kernel
theorem u185 : bUp 0 am_m185.1 = true := by decide +kernel
