/-! ===== ways by hand: quadrilaterals laid ===== -/
theorem u212 : bUp 0 am_m212.1 = true := by decide +kernel
theorem u216 : bUp 0 am_m216.1 = true := by decide +kernel
theorem u217 : bUp 0 am_m217.1 = true := by decide +kernel
theorem u218 : bUp 0 am_m218.1 = true := by decide +kernel
theorem u219 : bUp 0 am_m219.1 = true := by decide +kernel
theorem u220 : bUp 0 am_m220.1 = true := by decide +kernel
theorem u222 : bUp 0 am_m222.1 = true := by decide +kernel
theorem u223 : bUp 0 am_m223.1 = true := by decide +kernel
theorem u224 : bUp 0 am_m224.1 = true := by decide +kernel
theorem u258 : bUp 0 am_m258.1 = true := by decide +kernel
theorem u261 : bUp 0 am_m261.1 = true := by decide +kernel
theorem u292 : bUp 0 am_m292.1 = true := by decide +kernel
theorem u293 : bUp 0 am_m293.1 = true := by decide +kernel
theorem u294 : bUp 0 am_m294.1 = true := by decide +kernel
theorem u295 : bUp 0 am_m295.1 = true := by decide +kernel
