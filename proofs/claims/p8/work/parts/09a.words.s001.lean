theorem am_x0 : ∀ w ∈ vx_atS "TripleTrains" 145 "java/lang/IllegalArgumentException" amXn, vx_ot w = true ∧ w ∈ lw_tbl ∧ (goodWord w = true ∨ (amNk w = true ∧ w.onTables = true)) := by decide +kernel
