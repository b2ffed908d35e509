theorem am_rx1 : decode am_rx 1 = .ok (.aload_n 1, 1) := by decide +kernel
