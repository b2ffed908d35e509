theorem am_rx5 : decode am_rx 5 = .ok (.return_, 1) := by decide +kernel
