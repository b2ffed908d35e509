/-! ===== the compared call ===== -/
theorem cs16J {sc : List Int32} {b : Nat} {i : Int32} {hp : amH} (i0 : 0 ≤ i.toInt) (i1 : i.toInt + 6 ≤ (sc.length : Int)) (hL : sc.length ≤ 100000) (hI : lawJ hp) (hN : ∀ hp1, lawJ hp1 → lV sc b 2256 i hp1) : lV sc (b + 1) 858 i hp := by
  obtain ⟨⟨V, T, ty⟩, n, h, sv, c, r⟩ := hI.2
  refine cald 859 (lI1 157 rfl) rfl rfl ?_
  refine ccall (kd := 0) (t := 0) [.ref 0] [] hI.1.1 (lI1 158 rfl) (Or.inl ⟨_, rfl, rfl, by decide, by decide⟩) rfl rfl rfl ⟨rfl, rfl, rfl⟩ rfl (recv0 hI.1.1 _) rfl (qK (Φ := fun z hp1 => bHk 84 bTT hp1 ∧ cF hp hp1 ∧ (clS hp1 (V, (fuS V T 3375).1, ty) (pM n + 1) (pH n h (V, T, ty)) sv ∧ z.toInt = (((fuS V T 3375).2 : Nat) : Int))) (fun R hR => k_129E (d := 593) hI.1.1 c (fun z hp1 a1 a2 a3 a4 => hR z hp1 ⟨a1, a2, a3, a4⟩)) (fun rk hp1 g1 => Or.inl ⟨_, rfl, ?_⟩))
  have hI1 := law_cl hI.1 g1.1 g1.2.1
  have r1 := cF_rf g1.2.1 r
  refine cald 863 (lI1 159 rfl) rfl rfl ?_
  refine ccall (kd := 0) (t := 0) [.ref 66] [.int _] hI1.1 (lI1 160 rfl) (Or.inl ⟨_, rfl, rfl, by decide, by decide⟩) rfl rfl rfl ⟨rfl, rfl, rfl⟩ rfl (recv66 hI1.1 _) rfl (qK (Φ := fun z hp2 => bHk 84 bTT hp2 ∧ P0 hp2 ∧ bFr wM hp1 hp2 ∧ stS hp2 ∧ z.toInt = rk.toInt) (fun R hR => k_275E (d := 595) hI1.1 hI1.2.1 r1 (fun z hp2 a1 a2 a3 a4 a5 => hR z hp2 ⟨a1, a2, a3, ⟨_, _, _, _, wM_cl a3 g1.2.2.1, a4⟩, a5.trans g1.2.2.2.symm⟩)) (fun rb hp2 g2 => Or.inl ⟨_, rfl, ?_⟩))
  have k2 := g2.2.2.2.2
  refine ccmp_eq 869 (lI1 161 rfl) rfl (fun c1 => ?_) (fun c1 => ?_)
  · exact cmono (hN _ ⟨law_rf hI1 g2.1 g2.2.1 g2.2.2.1, g2.2.2.2.1⟩) (fun y hp9 m9 s9 h9 => ⟨h9.1, by have := h9.2.1; omega, by have := h9.2.2; omega⟩)
  · omega
