/-! ===== a quadrilateral's six points, switched (pure) ===== -/
theorem mN_m3 {V : Nat} {T : sT} (hT : sOk V T) {t u v w : Nat} (ht : t < (trL T 225).length) (a : onL T t u) (b : onL T t v) (c : onL T t w) (h1 : ¬ u = v) (h2 : ¬ u = w) (h3 : ¬ v = w) : mN T t = m3 u v w := by
  obtain ⟨x, y, z, l1, l2, l3, e1, e2, e3⟩ := on_pts hT ht
  have a := (e3 u).mp a
  have b := (e3 v).mp b
  have c := (e3 w).mp c
  apply Nat.eq_of_testBit_eq
  intro q
  rw [m3_test]
  have q1 := e3 q
  unfold onL at q1
  rw [Bool.eq_iff_iff, q1, decide_eq_true_iff]
  omega
