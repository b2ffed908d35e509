theorem am_fit : ∀ n ∈ amEx, Bundle.fit n = true := by decide +kernel
