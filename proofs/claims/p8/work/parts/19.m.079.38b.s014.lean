theorem sh_3 {x y z a b c : Nat} (h : ∀ u v, sPr x y z u v → ¬ sPr a b c u v) : sh1 (m3 x y z) (m3 a b c) := fun u v g k => h u v (in2_3.mp g) (in2_3.mp k)
