/-! ===== ways by hand: triples read ===== -/
def wRS : List (Nat × Nat) := (67, 999) :: wTK
/-- points read so far -/
def T3 (hp0 hp : amH) (k : Nat) : Prop := bFr wTK hp0 hp ∧ PA hp ∧ rN hp0 66 26 ≤ rN hp 66 26 ∧ (∀ i, i < k → 0 ≤ rN hp 81 i ∧ rN hp 81 i ≤ rN hp 67 0 - 1) ∧ (∀ i j, i < j → j < k → ¬ rN hp 81 i = rN hp 81 j)
