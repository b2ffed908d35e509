theorem c3_s {V : Nat} {T : sT} (hT : sOk V T) {t : Nat} (ht : t < (trL T 225).length) : c3 T t 0 < c3 T t 1 ∧ c3 T t 1 < c3 T t 2 ∧ c3 T t 2 < V ∧ mN T t = m3 (c3 T t 0) (c3 T t 1) (c3 T t 2) ∧ T (c3 T t 0) (c3 T t 1) = ((c3 T t 2 : Nat) : Int) := by
  obtain ⟨g1, g2, g3⟩ := trL_get 225 t ht
  obtain ⟨z, ez, h1, h2, h3⟩ := tr_pts hT g1
  have e : c3 T t 2 = z := by show (T ((trL T 225).getD t 0 / 15) ((trL T 225).getD t 0 % 15)).toNat = z; rw [ez, Int.toNat_natCast]
  rw [e]
  refine ⟨h1, h2, h3, ?_, ez⟩
  show mk3 T ((trL T 225).getD t 0) = _
  unfold mk3
  rw [ez, Int.toNat_natCast]
  rfl
