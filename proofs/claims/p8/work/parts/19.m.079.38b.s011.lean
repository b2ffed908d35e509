theorem triM_m {V : Nat} {T : sT} (hT : sOk V T) {t : Nat} (ht : t < (trL T 225).length) : triM T (mN T t) := by
  obtain ⟨x, y, z, l1, l2, l3, e1, e2, e3⟩ := on_pts hT ht
  exact ⟨x, y, z, l1, l2, e1, e2⟩
