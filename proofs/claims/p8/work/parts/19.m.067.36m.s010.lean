/-- the points of a covered pair's triple in a set, counted -/
theorem mtB_n {V : Nat} {T : sT} (hT : sOk V T) {u v w M : Nat} {c : Int} (h : T u v = (w : Int)) : mtB T M c (cd T u v) = true ↔ c ≤ ((M.testBit u).toNat + (M.testBit v).toNat + (M.testBit w).toNat : Nat) := by
  have hne : ¬ T u v = -1 := by omega
  obtain ⟨g1, g2, g3⟩ := cd_of hT hne
  obtain ⟨z, ez, h1, h2, h3⟩ := tr_pts hT g1
  have hV := hT.2.1
  have e := mk_cd hT h
  have e2 : m3 (cd T u v / 15) (cd T u v % 15) z = m3 u v w := by rw [← e]; unfold mk3; rw [ez, Int.toNat_natCast]
  unfold mtB
  rw [decide_eq_true_iff, e, ← e2, bc_and h1 h2 (by omega)]
  obtain ⟨w', ew, -, -, -, d1, d2, d3, -⟩ := sOk_at hT rfl hne
  have q := fun i => m3_eq e2 i
  have qu := (q u).mpr (Or.inl rfl)
  have qv := (q v).mpr (Or.inr (Or.inl rfl))
  have qw := (q w).mpr (Or.inr (Or.inr rfl))
  have hw : w' = w := by omega
  subst hw
  rcases qu with a | a | a <;> rcases qv with b | b | b <;> rcases qw with c' | c' | c' <;> first | exact absurd (a.trans b.symm) d1 | exact absurd (a.trans c'.symm) d2 | exact absurd (b.trans c'.symm) d3 | (rw [← a, ← b, ← c'] <;> omega)
