/-! ===== ways by hand: points, statements, text read ===== -/
def hE (hp : amH) : Prop := ∀ i, 4 ≤ i → i < 229 → rN hp 67 i = -1
theorem hE_V {hp : amH} (h : hE hp) (h0 : 3 ≤ rN hp 67 0) (h1 : rN hp 67 0 ≤ 15) : Vf (rN hp 67) := ⟨h0, h1, fun a b ha hb => Or.inl (h _ (by omega) (by omega))⟩
