/-! ===== links and callees checked ===== -/
theorem am_w0 : wAll amXX "TripleTrains$Board" am_W0 = true := by decide +kernel
theorem am_w1 : wAll amXX "TripleTrains$Cycles" am_W1 = true := by decide +kernel
theorem am_w2 : wAll amXX "TripleTrains$Exchange" am_W2 = true := by decide +kernel
theorem am_w3 : wAll amXX "TripleTrains$History" am_W3 = true := by decide +kernel
theorem am_w4 : wAll amXX "TripleTrains$Quads" am_W4 = true := by decide +kernel
theorem am_w5 : wAll amXX "TripleTrains$Sets" am_W5 = true := by decide +kernel
theorem am_w6 : wAll amXX "TripleTrains$SetupText" am_W6 = true := by decide +kernel
theorem am_w7 : wAll amXX "TripleTrains$Snapshot" am_W7 = true := by decide +kernel
theorem am_w8 : wAll amXX "TripleTrains$Tally" am_W8 = true := by decide +kernel
theorem am_w9 : wAll amXX "TripleTrains$Trades" am_W9 = true := by decide +kernel
theorem am_w10 : wAll amXX "TripleTrains$Trains" am_W10 = true := by decide +kernel
theorem am_w11 : wAll amXX "TripleTrains" am_W11 = true := by decide +kernel
theorem am_w12 : wAll amXX "TripleTrainsModel" am_W12 = true := by decide +kernel
theorem am_w13 : wAll amXX "java/lang/Integer" am_W13 = true := by decide +kernel
theorem am_w14 : wAll amXX "java/lang/Long" am_W14 = true := by decide +kernel
theorem am_w15 : wAll amXX "java/lang/Math" am_W15 = true := by decide +kernel
theorem am_w16 : wAll amXX "TripleTrainsLaw" am_W16 = true := by decide +kernel
theorem am_v : vAll amXX amGG 0 am_V = true := by decide +kernel
