theorem am_nFit : Bundle.fit amNS = true ∧ Bundle.fit amRE = true ∧ ∀ n ∈ ["java/lang/Exception"], Bundle.fit n = true := by decide +kernel
