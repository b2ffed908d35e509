theorem inv3_or {V : Nat} {T : sT} (hT : sOk V T) {C : Nat → Nat → Prop} (h : inv3 T C) (a b : Nat) : inv3 T (fun u v => C u v ∨ (inT T u v a ∧ inT T u v b)) := fun u v x y g1 g2 g3 g4 => by
  have k := (inT_tr hT g1 g2 g3 g4).2
  have c := h u v x y g1 g2 g3 g4
  show (C u v ∨ inT T u v a ∧ inT T u v b) ↔ (C x y ∨ inT T x y a ∧ inT T x y b)
  rw [k a, k b, c]
