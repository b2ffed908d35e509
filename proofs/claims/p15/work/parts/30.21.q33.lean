/-! ===== wouldHaveBy's helper ===== -/
theorem h369E {d : Nat} {hp : amH} {R : cQ} {x1 x2 x3 : Int32} {V n : Nat} {h : Nat → sR} {sv : Option sR} {T : sT} {ty : Nat → Int} (hI : lawI hp) (c : clS hp (V, T, ty) n h sv) (r : rfS hp (V, T, ty) n h sv)
    (hR : ∀ (z : Int32) hp1 mc ms, lawI hp1 → rfS hp1 (V, T, ty) n h sv → z.toInt = gCy V T x1.toInt x2.toInt x3.toInt → ((¬ gCy V T x1.toInt x2.toInt x3.toInt = 0 ∧ clS hp1 (V, T, ty) n h sv) ∨ (gCy V T x1.toInt x2.toInt x3.toInt = 0 ∧ clS hp1 (V, T, ty) n h sv ∧ rJ hp1 83 0 = ((nQ (swC T x1.toInt.toNat x2.toInt.toNat (cyX V T x1.toInt x2.toInt x3.toInt)) : Nat) : Int))) → mc ≤ 1 → ms ≤ 6 → R (.inl (some (.int z))) hp1 mc ms) : cK (d + 20) 369 [.ref 0, .int x1, .int x2, .int x3, .ref 83] hp R := by
  refine cin (M := am_m369) rfl rfl rfl ?_
  refine cald2 2 ⟨u369J, _, rfl⟩ rfl rfl ?_
  refine ccst 3 (0) ⟨u369J, _, rfl⟩ rfl (by decide) (fun z2 h2 => ?_)
  refine cald 4 ⟨u369J, _, rfl⟩ rfl rfl ?_
  refine cild 5 ⟨u369J, _, rfl⟩ rfl rfl ?_
  refine cild 6 ⟨u369J, _, rfl⟩ rfl rfl ?_
  refine cild 7 ⟨u369J, _, rfl⟩ rfl rfl ?_
  refine ccall (kd := 0) (t := 3) [.ref 0, .int _, .int _, .int _] [.int _, .ref 83] hI.1 ⟨u369J, _, rfl⟩ (Or.inl ⟨_, rfl, rfl, by decide, by decide⟩) rfl rfl rfl ⟨rfl, rfl, rfl⟩ rfl (recv0 hI.1 _) rfl (qKE (Φ := fun z hp1 => bHk 84 bTT hp1 ∧ cF hp hp1 ∧ gCy V T x1.toInt x2.toInt x3.toInt = 0 ∧ clS hp1 (V, T, ty) n h sv ∧ z.toInt = ((nQ (swC T x1.toInt.toNat x2.toInt.toNat (cyX V T x1.toInt x2.toInt x3.toInt)) : Nat) : Int)) (Ψ := fun E hp1 => lawI hp1 ∧ rfS hp1 (V, T, ty) n h sv ∧ clS hp1 (V, T, ty) n h sv ∧ ¬ gCy V T x1.toInt x2.toInt x3.toInt = 0 ∧ ((gCy V T x1.toInt x2.toInt x3.toInt = 1 ∧ E = 1) ∨ (gCy V T x1.toInt x2.toInt x3.toInt = 2 ∧ E = 0) ∨ (gCy V T x1.toInt x2.toInt x3.toInt = 3 ∧ E = 3))) (fun R g1 g2 => k_144E (d := d + 14) hI.1 c (fun E e1 e2 => g2 E hp ⟨hI, r, c, (fun z => e1 (gCy_0.mp z).1), (by
      have gc : gCy V T x1.toInt x2.toInt x3.toInt = gTwo V x1.toInt x2.toInt := by unfold gCy; rw [if_neg e1]
      rw [gc]
      rcases e2 with z | z | z
      · exact Or.inl z
      · exact Or.inr (Or.inl z)
      · exfalso; have := gTwo_12 (V := V) (a := x1.toInt) (b := x2.toInt); omega)⟩) (fun hp1 b1 b2 b3 b4 b5 => g2 3 hp1 ⟨law_cl hI b1 b2, cF_rf b2 r, b3, (fun z => b5 (gCy_0.mp z).2), Or.inr (Or.inr ⟨by unfold gCy; rw [if_pos b4, if_neg b5], rfl⟩)⟩) (fun z hp1 a1 a2 a3 a4 a5 a6 a7 => g1 z hp1 ⟨a1, a2, gCy_0.mpr ⟨a3, a4, a5⟩, a6, a7⟩)) (fun z hp1 φ => Or.inl ⟨_, rfl, ?_⟩) (fun E hp1 ψ => Or.inr ?_))
  · refine ci2lE 11 ⟨u369J, _, rfl⟩ rfl (fun w hw => ?_)
    refine clastE 12 φ.1 ⟨u369J, _, rfl⟩ rfl h2 (fun hp2 hH2 F2 J2 => ?_)
    refine cgoto ⟨u369J, _, rfl⟩ ?_
    refine ccst 28 (0) ⟨u369J, _, rfl⟩ rfl (by decide) (fun z9 h9 => ?_)
    exact cret ⟨u369J, _, rfl⟩ (Or.inl rfl) (hR _ _ _ _ (lawI_83 (law_cl hI φ.1 φ.2.1) hH2 F2) (rf_83 F2 (cF_rf φ.2.1 r)) (by rw [φ.2.2.1]; exact h9) (Or.inr ⟨φ.2.2.1, cl_83 F2 φ.2.2.2.1, by rw [J2, hw]; exact φ.2.2.2.2⟩) (by decide) (by decide))
  · obtain ⟨ψ0, ψr, ψc, ψ1, ψ2⟩ := ψ
    rcases ψ2 with ⟨ce, rfl⟩ | ⟨ce, rfl⟩ | ⟨ce, rfl⟩
    · refine ⟨1, 15, 5, 17, rfl, rfl, rfl, rfl, ?_⟩
      refine ccst 18 (1) ⟨u369J, _, rfl⟩ rfl (by decide) (fun z9 h9 => ?_)
      exact cret ⟨u369J, _, rfl⟩ (Or.inl rfl) (hR _ _ _ _ ψ0 ψr (by rw [ce]; exact h9) (Or.inl ⟨ψ1, ψc⟩) (by decide) (by decide))
    · refine ⟨0, 19, 5, 21, rfl, rfl, rfl, rfl, ?_⟩
      refine ccst 22 (2) ⟨u369J, _, rfl⟩ rfl (by decide) (fun z9 h9 => ?_)
      exact cret ⟨u369J, _, rfl⟩ (Or.inl rfl) (hR _ _ _ _ ψ0 ψr (by rw [ce]; exact h9) (Or.inl ⟨ψ1, ψc⟩) (by decide) (by decide))
    · refine ⟨3, 23, 5, 25, rfl, rfl, rfl, rfl, ?_⟩
      refine ccst 26 (3) ⟨u369J, _, rfl⟩ rfl (by decide) (fun z9 h9 => ?_)
      exact cret ⟨u369J, _, rfl⟩ (Or.inl rfl) (hR _ _ _ _ ψ0 ψr (by rw [ce]; exact h9) (Or.inl ⟨ψ1, ψc⟩) (by decide) (by decide))
