/-! ===== the mutators without a helper ===== -/
theorem cs46J {sc : List Int32} {b : Nat} {i : Int32} {hp : amH} (i0 : 0 ≤ i.toInt) (i1 : i.toInt + 6 ≤ (sc.length : Int)) (hL : sc.length ≤ 100000) (hI : lawJ hp) (hN : ∀ hp1, lawJ hp1 → lV sc b 2256 i hp1) : lV sc (b + 1) 1837 i hp := by
  obtain ⟨⟨V, T, ty⟩, n, h, sv, c, r⟩ := hI.2
  refine cald 1838 (lI4 74 rfl) rfl rfl ?_
  refine cald 1839 (lI4 75 rfl) rfl rfl ?_
  refine cild2 1841 (lI4 76 rfl) rfl rfl ?_
  refine ccst 1842 (1) (lI4 77 rfl) rfl (by decide) (fun z1841 h1841 => ?_)
  refine cadd 1843 _ (lI4 78 rfl) rfl rfl (by omega) (by omega) (fun z1842 h1842 => ?_)
  refine csclE 1844 (lI4 79 rfl) rfl (by omega) (by omega) (fun w1843 e1843 => ?_)
  refine ccall (kd := 0) (t := 0) [.ref 0, .int _] [] hI.1.1 (lI4 80 rfl) (Or.inl ⟨_, rfl, rfl, by decide, by decide⟩) rfl rfl rfl ⟨rfl, rfl, rfl⟩ rfl (recv0 hI.1.1 _) rfl (qK (Φ := fun _ hp1 => bHk 84 bTT hp1 ∧ cF hp hp1 ∧ clS hp1 (V, pG (tn V (bv w1843.toInt (V : Int)).toNat) T 225, ty) (pM n + 1) (pH n h (V, T, ty)) sv) (fun R hR => k_159E (d := 592) hI.1.1 c (fun z hp1 a1 a2 a3 _ => hR z hp1 ⟨a1, a2, a3⟩)) (fun r1844 hp1844 g1 => Or.inl ⟨_, rfl, ?_⟩))
  have hI1844 := law_cl hI.1 g1.1 g1.2.1
  have r1 := cF_rf g1.2.1 r
  refine cpop 1848 (lI4 81 rfl) rfl rfl ?_
  refine cald 1849 (lI4 82 rfl) rfl rfl ?_
  refine cald 1850 (lI4 83 rfl) rfl rfl ?_
  refine cild2 1852 (lI4 84 rfl) rfl rfl ?_
  refine ccst 1853 (1) (lI4 85 rfl) rfl (by decide) (fun z1852 h1852 => ?_)
  refine cadd 1854 _ (lI4 86 rfl) rfl rfl (by omega) (by omega) (fun z1853 h1853 => ?_)
  refine csclE 1855 (lI4 87 rfl) rfl (by omega) (by omega) (fun w1854 e1854 => ?_)
  have ew1854 : w1854 = w1843 := by rw [e1854, e1843, show z1853.toInt = z1842.toInt by omega]
  subst ew1854
  refine ccall (kd := 0) (t := 0) [.ref 66, .int _] [] hI1844.1 (lI4 88 rfl) (Or.inl ⟨_, rfl, rfl, by decide, by decide⟩) rfl rfl rfl ⟨rfl, rfl, rfl⟩ rfl (recv66 hI1844.1 _) rfl (qK (Φ := fun _ hp2 => bHk 84 bTT hp2 ∧ P0 hp2 ∧ bFr wM hp1844 hp2 ∧ stS hp2) (fun R hR => k_281E (d := 595) hI1844.1 hI1844.2.1 r1 (fun z hp2 a1 a2 a3 a4 _ => hR z hp2 ⟨a1, a2, a3, ⟨_, _, _, _, wM_cl a3 g1.2.2, a4⟩⟩)) (fun r2 hp2 g2 => Or.inl ⟨_, rfl, ?_⟩))
  refine cpop 1859 (lI4 89 rfl) rfl rfl ?_
  refine cgoto (lI4 90 rfl) ?_
  exact cmono (hN hp2 ⟨law_rf hI1844 g2.1 g2.2.1 g2.2.2.1, g2.2.2.2⟩) (fun y hp9 m9 s9 h9 => ⟨h9.1, by have := h9.2.1; omega, by have := h9.2.2; omega⟩)
theorem cs60J {sc : List Int32} {b : Nat} {i : Int32} {hp : amH} (i0 : 0 ≤ i.toInt) (i1 : i.toInt + 6 ≤ (sc.length : Int)) (hL : sc.length ≤ 100000) (hI : lawJ hp) (hN : ∀ hp1, lawJ hp1 → lV sc b 2256 i hp1) : lV sc (b + 1) 2214 i hp := by
  obtain ⟨⟨V, T, ty⟩, n, h, sv, c, r⟩ := hI.2
  refine cald 2215 (lI5 71 rfl) rfl rfl ?_
  refine ccall (kd := 0) (t := 0) [.ref 0] [] hI.1.1 (lI5 72 rfl) (Or.inl ⟨_, rfl, rfl, by decide, by decide⟩) rfl rfl rfl ⟨rfl, rfl, rfl⟩ rfl (recv0 hI.1.1 _) rfl (qK (Φ := fun _ hp1 => bHk 84 bTT hp1 ∧ cF hp hp1 ∧ ((n = 0 ∧ clS hp1 (V, T, ty) n h sv) ∨ (0 < n ∧ clS hp1 (h (n - 1)) (n - 1) h sv))) (fun R hR => k_173E (d := 593) hI.1.1 c (fun z hp1 a1 a2 a3 => hR z hp1 ⟨a1, a2, a3.elim (fun z => Or.inl ⟨z.1, z.2.2⟩) (fun z => Or.inr ⟨z.1, z.2.2⟩)⟩)) (fun r2215 hp2215 g1 => Or.inl ⟨_, rfl, ?_⟩))
  have hI2215 := law_cl hI.1 g1.1 g1.2.1
  have r1 := cF_rf g1.2.1 r
  refine cpop 2219 (lI5 73 rfl) rfl rfl ?_
  refine cald 2220 (lI5 74 rfl) rfl rfl ?_
  refine ccall (kd := 0) (t := 0) [.ref 66] [] hI2215.1 (lI5 75 rfl) (Or.inl ⟨_, rfl, rfl, by decide, by decide⟩) rfl rfl rfl ⟨rfl, rfl, rfl⟩ rfl (recv66 hI2215.1 _) rfl (qK (Φ := fun _ hp2 => bHk 84 bTT hp2 ∧ P0 hp2 ∧ bFr wM hp2215 hp2 ∧ stS hp2) (fun R hR => k_339 (d := 598) hI2215.1 hI2215.2.1 r1.2 (fun z hp2 a1 a2 a3 a4 => hR z hp2 ⟨a1, a2, a3, by
    rcases g1.2.2 with ⟨e, k⟩ | ⟨e, k⟩ <;> rcases a4 with ⟨e2, _, k2⟩ | ⟨e2, _, k2, k3⟩
    · exact ⟨_, _, _, _, wM_cl a3 k, rfS_W r1 k2 (fun _ => rfl) rfl rfl (fun _ => rfl) (fun _ => rfl)⟩
    · exfalso; omega
    · exfalso; omega
    · exact ⟨_, _, _, _, wM_cl a3 k, ⟨k3, k2⟩⟩⟩)) (fun r2 hp2 g2 => Or.inl ⟨_, rfl, ?_⟩))
  refine cpop 2224 (lI5 76 rfl) rfl rfl ?_
  refine cgoto (lI5 77 rfl) ?_
  exact cmono (hN hp2 ⟨law_rf hI2215 g2.1 g2.2.1 g2.2.2.1, g2.2.2.2⟩) (fun y hp9 m9 s9 h9 => ⟨h9.1, by have := h9.2.1; omega, by have := h9.2.2; omega⟩)
theorem cs61J {sc : List Int32} {b : Nat} {i : Int32} {hp : amH} (i0 : 0 ≤ i.toInt) (i1 : i.toInt + 6 ≤ (sc.length : Int)) (hL : sc.length ≤ 100000) (hI : lawJ hp) (hN : ∀ hp1, lawJ hp1 → lV sc b 2256 i hp1) : lV sc (b + 1) 2227 i hp := by
  obtain ⟨⟨V, T, ty⟩, n, h, sv, c, r⟩ := hI.2
  refine cald 2228 (lI5 78 rfl) rfl rfl ?_
  refine ccall (kd := 0) (t := 0) [.ref 0] [] hI.1.1 (lI5 79 rfl) (Or.inl ⟨_, rfl, rfl, by decide, by decide⟩) rfl rfl rfl ⟨rfl, rfl, rfl⟩ rfl (recv0 hI.1.1 _) rfl (qK (Φ := fun _ hp1 => bHk 84 bTT hp1 ∧ cF hp hp1 ∧ clS hp1 (V, T, ty) n h (some (V, T, ty))) (fun R hR => k_174E (d := 596) hI.1.1 c (fun z hp1 a1 a2 a3 _ => hR z hp1 ⟨a1, a2, a3⟩)) (fun r2228 hp2228 g1 => Or.inl ⟨_, rfl, ?_⟩))
  have hI2228 := law_cl hI.1 g1.1 g1.2.1
  have r1 := cF_rf g1.2.1 r
  refine cpop 2232 (lI5 80 rfl) rfl rfl ?_
  refine cald 2233 (lI5 81 rfl) rfl rfl ?_
  refine ccall (kd := 0) (t := 0) [.ref 66] [] hI2228.1 (lI5 82 rfl) (Or.inl ⟨_, rfl, rfl, by decide, by decide⟩) rfl rfl rfl ⟨rfl, rfl, rfl⟩ rfl (recv66 hI2228.1 _) rfl (qK (Φ := fun _ hp2 => bHk 84 bTT hp2 ∧ P0 hp2 ∧ bFr wM hp2228 hp2 ∧ stS hp2) (fun R hR => k_340E (d := 596) hI2228.1 hI2228.2.1 r1.1 r1.2 (fun z hp2 a1 a2 a3 a4 a5 _ => hR z hp2 ⟨a1, a2, a3, ⟨_, _, _, _, wM_cl a3 g1.2.2, ⟨a4, a5⟩⟩⟩)) (fun r2 hp2 g2 => Or.inl ⟨_, rfl, ?_⟩))
  refine cpop 2237 (lI5 83 rfl) rfl rfl ?_
  refine cgoto (lI5 84 rfl) ?_
  exact cmono (hN hp2 ⟨law_rf hI2228 g2.1 g2.2.1 g2.2.2.1, g2.2.2.2⟩) (fun y hp9 m9 s9 h9 => ⟨h9.1, by have := h9.2.1; omega, by have := h9.2.2; omega⟩)
