theorem inT_tr {V : Nat} {T : sT} (hT : sOk V T) {u v x y : Nat} (h : ¬ T u v = -1) (hxy : ¬ x = y) (hx : inT T u v x) (hy : inT T u v y) : ¬ T x y = -1 ∧ ∀ i, inT T u v i ↔ inT T x y i := by
  obtain ⟨w, ew, l1, l2, l3, d1, d2, d3, t1, t2, t3, t4, t5⟩ := sOk_at hT rfl h
  unfold inT at *
  rw [ew] at hx hy ⊢
  have hx : x = u ∨ x = v ∨ x = w := by omega
  have hy : y = u ∨ y = v ∨ y = w := by omega
  have g : ∀ a b c : Nat, T a b = (c : Int) → (∀ i, (i = u ∨ i = v ∨ i = w) ↔ (i = a ∨ i = b ∨ i = c)) → ¬ T a b = -1 ∧ ∀ i : Nat, (i = u ∨ i = v ∨ (w : Int) = (i : Int)) ↔ (i = a ∨ i = b ∨ T a b = (i : Int)) := fun a b c e k => by
    rw [e]
    refine ⟨by omega, fun i => ?_⟩
    have := k i
    omega
  rcases hx with hx | hx | hx <;> rcases hy with hy | hy | hy <;> rw [hx, hy] <;> first | exact absurd (hx.trans hy.symm) hxy | skip
  · exact g u v w ew (fun i => by omega)
  · exact g u w v t2 (fun i => by omega)
  · exact g v u w t1 (fun i => by omega)
  · exact g v w u t3 (fun i => by omega)
  · exact g w u v t4 (fun i => by omega)
  · exact g w v u t5 (fun i => by omega)
