/-! ===== the words of the throws ===== -/
/-- where TripleTrains links the constructors of its exceptions -/
def amXic : List Nat := [145, 191, 206, 283]
theorem am_x0 : ∀ w ∈ vx_atS "TripleTrains" 145 "java/lang/IllegalArgumentException" amXn, vx_ot w = true ∧ w ∈ lw_tbl ∧ (goodWord w = true ∨ (amNk w = true ∧ w.onTables = true)) := by decide +kernel
theorem am_x1 : ∀ w ∈ vx_atS "TripleTrains" 191 "java/lang/IndexOutOfBoundsException" amXn, vx_ot w = true ∧ w ∈ lw_tbl ∧ (goodWord w = true ∨ (amNk w = true ∧ w.onTables = true)) := by decide +kernel
theorem am_x2 : ∀ w ∈ vx_atS "TripleTrains" 206 "java/lang/IllegalStateException" amXn, vx_ot w = true ∧ w ∈ lw_tbl ∧ (goodWord w = true ∨ (amNk w = true ∧ w.onTables = true)) := by decide +kernel
theorem am_fit : ∀ n ∈ amEx, Bundle.fit n = true := by decide +kernel
