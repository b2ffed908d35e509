/-! ===== the mutators without a helper ===== -/
theorem cs16J {sc : List Int32} {b : Nat} {i : Int32} {hp : amH} (i0 : 0 ≤ i.toInt) (i1 : i.toInt + 6 ≤ (sc.length : Int)) (hL : sc.length ≤ 100000) (hI : lawJ hp) (hN : ∀ hp1, lawJ hp1 → lV sc b 2284 i hp1) : lV sc (b + 1) 886 i hp := by
  obtain ⟨⟨V, T, ty⟩, n, h, sv, c, r⟩ := hI.2
  refine cald 887 (lI1 174 rfl) rfl rfl ?_
  refine ccall (kd := 0) (t := 0) [.ref 0] [] hI.1.1 (lI1 175 rfl) (Or.inl ⟨_, rfl, rfl, by decide, by decide⟩) rfl rfl rfl ⟨rfl, rfl, rfl⟩ rfl (recv0 hI.1.1 _) rfl (qK (Φ := fun _ hp1 => bHk 84 bTT hp1 ∧ cF hp hp1 ∧ clS hp1 (V, (fuS V T 3375).1, ty) (pM n + 1) (pH n h (V, T, ty)) sv) (fun R hR => k_129E (d := 593) hI.1.1 c (fun z hp1 a1 a2 a3 _ => hR z hp1 ⟨a1, a2, a3⟩)) (fun r887 hp887 g1 => Or.inl ⟨_, rfl, ?_⟩))
  have hI887 := law_cl hI.1 g1.1 g1.2.1
  have r1 := cF_rf g1.2.1 r
  refine cpop 891 (lI1 176 rfl) rfl rfl ?_
  refine cald 892 (lI1 177 rfl) rfl rfl ?_
  refine ccall (kd := 0) (t := 0) [.ref 66] [] hI887.1 (lI1 178 rfl) (Or.inl ⟨_, rfl, rfl, by decide, by decide⟩) rfl rfl rfl ⟨rfl, rfl, rfl⟩ rfl (recv66 hI887.1 _) rfl (qK (Φ := fun _ hp2 => bHk 84 bTT hp2 ∧ P0 hp2 ∧ bFr wM hp887 hp2 ∧ stS hp2) (fun R hR => k_275E (d := 595) hI887.1 hI887.2.1 r1 (fun z hp2 a1 a2 a3 a4 _ => hR z hp2 ⟨a1, a2, a3, ⟨_, _, _, _, wM_cl a3 g1.2.2, a4⟩⟩)) (fun r2 hp2 g2 => Or.inl ⟨_, rfl, ?_⟩))
  refine cpop 896 (lI1 179 rfl) rfl rfl ?_
  refine cgoto (lI1 180 rfl) ?_
  exact cmono (hN hp2 ⟨law_rf hI887 g2.1 g2.2.1 g2.2.2.1, g2.2.2.2⟩) (fun y hp9 m9 s9 h9 => ⟨h9.1, by have := h9.2.1; omega, by have := h9.2.2; omega⟩)
theorem cs46J {sc : List Int32} {b : Nat} {i : Int32} {hp : amH} (i0 : 0 ≤ i.toInt) (i1 : i.toInt + 6 ≤ (sc.length : Int)) (hL : sc.length ≤ 100000) (hI : lawJ hp) (hN : ∀ hp1, lawJ hp1 → lV sc b 2284 i hp1) : lV sc (b + 1) 1865 i hp := by
  obtain ⟨⟨V, T, ty⟩, n, h, sv, c, r⟩ := hI.2
  refine cald 1866 (lI4 91 rfl) rfl rfl ?_
  refine cald 1867 (lI4 92 rfl) rfl rfl ?_
  refine cild2 1869 (lI4 93 rfl) rfl rfl ?_
  refine ccst 1870 (1) (lI4 94 rfl) rfl (by decide) (fun z1869 h1869 => ?_)
  refine cadd 1871 _ (lI4 95 rfl) rfl rfl (by omega) (by omega) (fun z1870 h1870 => ?_)
  refine csclE 1872 (lI4 96 rfl) rfl (by omega) (by omega) (fun w1871 e1871 => ?_)
  refine ccall (kd := 0) (t := 0) [.ref 0, .int _] [] hI.1.1 (lI4 97 rfl) (Or.inl ⟨_, rfl, rfl, by decide, by decide⟩) rfl rfl rfl ⟨rfl, rfl, rfl⟩ rfl (recv0 hI.1.1 _) rfl (qK (Φ := fun _ hp1 => bHk 84 bTT hp1 ∧ cF hp hp1 ∧ clS hp1 (V, pG (tn V (bv w1871.toInt (V : Int)).toNat) T 225, ty) (pM n + 1) (pH n h (V, T, ty)) sv) (fun R hR => k_159E (d := 592) hI.1.1 c (fun z hp1 a1 a2 a3 _ => hR z hp1 ⟨a1, a2, a3⟩)) (fun r1872 hp1872 g1 => Or.inl ⟨_, rfl, ?_⟩))
  have hI1872 := law_cl hI.1 g1.1 g1.2.1
  have r1 := cF_rf g1.2.1 r
  refine cpop 1876 (lI4 98 rfl) rfl rfl ?_
  refine cald 1877 (lI4 99 rfl) rfl rfl ?_
  refine cald 1878 (lI4 100 rfl) rfl rfl ?_
  refine cild2 1880 (lI4 101 rfl) rfl rfl ?_
  refine ccst 1881 (1) (lI4 102 rfl) rfl (by decide) (fun z1880 h1880 => ?_)
  refine cadd 1882 _ (lI4 103 rfl) rfl rfl (by omega) (by omega) (fun z1881 h1881 => ?_)
  refine csclE 1883 (lI4 104 rfl) rfl (by omega) (by omega) (fun w1882 e1882 => ?_)
  have ew1882 : w1882 = w1871 := by rw [e1882, e1871, show z1881.toInt = z1870.toInt by omega]
  subst ew1882
  refine ccall (kd := 0) (t := 0) [.ref 66, .int _] [] hI1872.1 (lI4 105 rfl) (Or.inl ⟨_, rfl, rfl, by decide, by decide⟩) rfl rfl rfl ⟨rfl, rfl, rfl⟩ rfl (recv66 hI1872.1 _) rfl (qK (Φ := fun _ hp2 => bHk 84 bTT hp2 ∧ P0 hp2 ∧ bFr wM hp1872 hp2 ∧ stS hp2) (fun R hR => k_281E (d := 595) hI1872.1 hI1872.2.1 r1 (fun z hp2 a1 a2 a3 a4 _ => hR z hp2 ⟨a1, a2, a3, ⟨_, _, _, _, wM_cl a3 g1.2.2, a4⟩⟩)) (fun r2 hp2 g2 => Or.inl ⟨_, rfl, ?_⟩))
  refine cpop 1887 (lI4 106 rfl) rfl rfl ?_
  refine cgoto (lI4 107 rfl) ?_
  exact cmono (hN hp2 ⟨law_rf hI1872 g2.1 g2.2.1 g2.2.2.1, g2.2.2.2⟩) (fun y hp9 m9 s9 h9 => ⟨h9.1, by have := h9.2.1; omega, by have := h9.2.2; omega⟩)
theorem cs60J {sc : List Int32} {b : Nat} {i : Int32} {hp : amH} (i0 : 0 ≤ i.toInt) (i1 : i.toInt + 6 ≤ (sc.length : Int)) (hL : sc.length ≤ 100000) (hI : lawJ hp) (hN : ∀ hp1, lawJ hp1 → lV sc b 2284 i hp1) : lV sc (b + 1) 2242 i hp := by
  obtain ⟨⟨V, T, ty⟩, n, h, sv, c, r⟩ := hI.2
  refine cald 2243 (lI5 88 rfl) rfl rfl ?_
  refine ccall (kd := 0) (t := 0) [.ref 0] [] hI.1.1 (lI5 89 rfl) (Or.inl ⟨_, rfl, rfl, by decide, by decide⟩) rfl rfl rfl ⟨rfl, rfl, rfl⟩ rfl (recv0 hI.1.1 _) rfl (qK (Φ := fun _ hp1 => bHk 84 bTT hp1 ∧ cF hp hp1 ∧ ((n = 0 ∧ clS hp1 (V, T, ty) n h sv) ∨ (0 < n ∧ clS hp1 (h (n - 1)) (n - 1) h sv))) (fun R hR => k_173E (d := 593) hI.1.1 c (fun z hp1 a1 a2 a3 => hR z hp1 ⟨a1, a2, a3.elim (fun z => Or.inl ⟨z.1, z.2.2⟩) (fun z => Or.inr ⟨z.1, z.2.2⟩)⟩)) (fun r2243 hp2243 g1 => Or.inl ⟨_, rfl, ?_⟩))
  have hI2243 := law_cl hI.1 g1.1 g1.2.1
  have r1 := cF_rf g1.2.1 r
  refine cpop 2247 (lI5 90 rfl) rfl rfl ?_
  refine cald 2248 (lI5 91 rfl) rfl rfl ?_
  refine ccall (kd := 0) (t := 0) [.ref 66] [] hI2243.1 (lI5 92 rfl) (Or.inl ⟨_, rfl, rfl, by decide, by decide⟩) rfl rfl rfl ⟨rfl, rfl, rfl⟩ rfl (recv66 hI2243.1 _) rfl (qK (Φ := fun _ hp2 => bHk 84 bTT hp2 ∧ P0 hp2 ∧ bFr wM hp2243 hp2 ∧ stS hp2) (fun R hR => k_339 (d := 598) hI2243.1 hI2243.2.1 r1.2 (fun z hp2 a1 a2 a3 a4 => hR z hp2 ⟨a1, a2, a3, by
    rcases g1.2.2 with ⟨e, k⟩ | ⟨e, k⟩ <;> rcases a4 with ⟨e2, _, k2⟩ | ⟨e2, _, k2, k3⟩
    · exact ⟨_, _, _, _, wM_cl a3 k, rfS_W r1 k2 (fun _ => rfl) rfl rfl (fun _ => rfl) (fun _ => rfl)⟩
    · exfalso; omega
    · exfalso; omega
    · exact ⟨_, _, _, _, wM_cl a3 k, ⟨k3, k2⟩⟩⟩)) (fun r2 hp2 g2 => Or.inl ⟨_, rfl, ?_⟩))
  refine cpop 2252 (lI5 93 rfl) rfl rfl ?_
  refine cgoto (lI5 94 rfl) ?_
  exact cmono (hN hp2 ⟨law_rf hI2243 g2.1 g2.2.1 g2.2.2.1, g2.2.2.2⟩) (fun y hp9 m9 s9 h9 => ⟨h9.1, by have := h9.2.1; omega, by have := h9.2.2; omega⟩)
theorem cs61J {sc : List Int32} {b : Nat} {i : Int32} {hp : amH} (i0 : 0 ≤ i.toInt) (i1 : i.toInt + 6 ≤ (sc.length : Int)) (hL : sc.length ≤ 100000) (hI : lawJ hp) (hN : ∀ hp1, lawJ hp1 → lV sc b 2284 i hp1) : lV sc (b + 1) 2255 i hp := by
  obtain ⟨⟨V, T, ty⟩, n, h, sv, c, r⟩ := hI.2
  refine cald 2256 (lI5 95 rfl) rfl rfl ?_
  refine ccall (kd := 0) (t := 0) [.ref 0] [] hI.1.1 (lI5 96 rfl) (Or.inl ⟨_, rfl, rfl, by decide, by decide⟩) rfl rfl rfl ⟨rfl, rfl, rfl⟩ rfl (recv0 hI.1.1 _) rfl (qK (Φ := fun _ hp1 => bHk 84 bTT hp1 ∧ cF hp hp1 ∧ clS hp1 (V, T, ty) n h (some (V, T, ty))) (fun R hR => k_174E (d := 596) hI.1.1 c (fun z hp1 a1 a2 a3 _ => hR z hp1 ⟨a1, a2, a3⟩)) (fun r2256 hp2256 g1 => Or.inl ⟨_, rfl, ?_⟩))
  have hI2256 := law_cl hI.1 g1.1 g1.2.1
  have r1 := cF_rf g1.2.1 r
  refine cpop 2260 (lI5 97 rfl) rfl rfl ?_
  refine cald 2261 (lI5 98 rfl) rfl rfl ?_
  refine ccall (kd := 0) (t := 0) [.ref 66] [] hI2256.1 (lI5 99 rfl) (Or.inl ⟨_, rfl, rfl, by decide, by decide⟩) rfl rfl rfl ⟨rfl, rfl, rfl⟩ rfl (recv66 hI2256.1 _) rfl (qK (Φ := fun _ hp2 => bHk 84 bTT hp2 ∧ P0 hp2 ∧ bFr wM hp2256 hp2 ∧ stS hp2) (fun R hR => k_340E (d := 596) hI2256.1 hI2256.2.1 r1.1 r1.2 (fun z hp2 a1 a2 a3 a4 a5 _ => hR z hp2 ⟨a1, a2, a3, ⟨_, _, _, _, wM_cl a3 g1.2.2, ⟨a4, a5⟩⟩⟩)) (fun r2 hp2 g2 => Or.inl ⟨_, rfl, ?_⟩))
  refine cpop 2265 (lI5 100 rfl) rfl rfl ?_
  refine cgoto (lI5 101 rfl) ?_
  exact cmono (hN hp2 ⟨law_rf hI2256 g2.1 g2.2.1 g2.2.2.1, g2.2.2.2⟩) (fun y hp9 m9 s9 h9 => ⟨h9.1, by have := h9.2.1; omega, by have := h9.2.2; omega⟩)
