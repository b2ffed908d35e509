theorem amIsA_v {ad : Nat → Nat} {v : Value} (h : amIsA v = true) : amV ad v = va_rf (amRef ad v) := by cases v <;> first | rfl | cases h
