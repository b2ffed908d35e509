theorem am_x2 : ∀ w ∈ vx_atS "TripleTrains" 206 "java/lang/IllegalStateException" amXn, vx_ot w = true ∧ w ∈ lw_tbl ∧ (goodWord w = true ∨ (amNk w = true ∧ w.onTables = true)) := by decide +kernel
