theorem inv3_0 (T : sT) : inv3 T (fun _ _ => False) := fun _ _ _ _ _ _ _ _ => Iff.rfl
