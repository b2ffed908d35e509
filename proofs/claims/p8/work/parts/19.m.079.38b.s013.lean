theorem freM_of {V c d e : Nat} {T : sT} (hT : sOk V T) (hc : c < V) (hd : d < V) (he : e < V) (h1 : ¬ c = d) (h2 : ¬ d = e) (h3 : ¬ c = e) (hf : ∀ u v, sPr c d e u v → T u v = -1) : freM V T (m3 c d e) := by
  obtain ⟨x, y, z, g1, g2, g3, -, -, g6, g7⟩ := srt h1 h2 h3
  obtain ⟨-, -, l3⟩ := g6 (fun i => i < V) hc hd he
  have q := fun u v (w : sPr x y z u v) => hf u v ⟨w.1, (g7 u).mpr w.2.1, (g7 v).mpr w.2.2⟩
  exact ⟨x, y, z, g1, g2, l3, g3, q x y ⟨by omega, by simp, by simp⟩, q y z ⟨by omega, by simp, by simp⟩, q x z ⟨by omega, by simp, by simp⟩⟩
