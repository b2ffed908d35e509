theorem am_rx0 : decode am_rx 0 = .ok (.aload_n 0, 1) := by decide +kernel
