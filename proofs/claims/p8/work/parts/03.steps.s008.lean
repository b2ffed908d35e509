theorem amIsI_v {ad : Nat → Nat} {v : Value} (h : amIsI v = true) : amV ad v = .int (amInt v) := by cases v <;> first | rfl | cases h
