theorem rm_s {V : Nat} {T S : sT} {C : Nat → Nat → Prop} (hT : sOk V T) (h : tkn T S C) (hC : inv3 T C) {x y : Nat} (hxy : ¬ x = y) : tkn T (rmT S x y) (fun u v => C u v ∨ (inT T u v x ∧ inT T u v y)) := by
  intro u v
  unfold rmT
  by_cases e : S x y = -1
  · rw [if_pos e]
    rcases h u v with ⟨a, b⟩ | ⟨a, b, c⟩
    · exact Or.inl ⟨a, b.imp id Or.inl⟩
    · refine Or.inr ⟨a, b, fun z => ?_⟩
      rcases z with z | ⟨z1, z2⟩
      · exact c z
      · have k := (inT_tr hT b hxy z1 z2).1
        have cc := hC u v x y b hxy z1 z2
        rcases h x y with ⟨p, q⟩ | ⟨p, q, r⟩
        · rcases q with q | q
          · exact k q
          · exact c (cc.mpr q)
        · exact q (p.symm.trans e)
  · rw [if_neg e]
    obtain ⟨p, q, r⟩ : S x y = T x y ∧ ¬ T x y = -1 ∧ ¬ C x y := by
      rcases h x y with ⟨p, -⟩ | g
      · exact absurd p e
      · exact g
    obtain ⟨w, ew, -, -, -, d1, d2, d3, -⟩ := sOk_at hT rfl q
    rw [p, ew, Int.toNat_natCast]
    unfold sTake
    by_cases hp : sPr x y w u v
    · rw [if_pos hp]
      obtain ⟨n, i1, i2⟩ := hp
      have k := (inT_tr hT q n (show inT T x y u by unfold inT; omega) (show inT T x y v by unfold inT; omega)).2
      exact Or.inl ⟨rfl, Or.inr (Or.inr ⟨(k x).mp (Or.inl rfl), (k y).mp (Or.inr (Or.inl rfl))⟩)⟩
    · rw [if_neg hp]
      rcases h u v with ⟨a, b⟩ | ⟨a, b, c⟩
      · exact Or.inl ⟨a, b.imp id Or.inl⟩
      · refine Or.inr ⟨a, b, fun z => ?_⟩
        rcases z with z | ⟨z1, z2⟩
        · exact c z
        · have k := (inT_tr hT b hxy z1 z2).2
          have ku := (k u).mp (Or.inl rfl)
          have kv := (k v).mp (Or.inr (Or.inl rfl))
          obtain ⟨-, -, -, -, -, duv, -⟩ := sOk_at hT rfl b
          unfold inT at ku kv
          rw [ew] at ku kv
          exact hp ⟨duv, by omega, by omega⟩
