/-! ===== wouldHave's helper ===== -/
theorem h363E {d : Nat} {hp : amH} {R : cQ} {x1 : Int32} {V n : Nat} {h : Nat → sR} {sv : Option sR} {T : sT} {ty : Nat → Int} (hI : lawI hp) (c : clS hp (V, T, ty) n h sv) (r : rfS hp (V, T, ty) n h sv)
    (hR : ∀ (z : Int32) hp1 mc ms, lawI hp1 → rfS hp1 (V, T, ty) n h sv → z.toInt = gTri (nQ T) x1.toInt → ((¬ gTri (nQ T) x1.toInt = 0 ∧ clS hp1 (V, T, ty) n h sv) ∨ (gTri (nQ T) x1.toInt = 0 ∧ clS hp1 (V, T, ty) n h sv ∧ rJ hp1 83 0 = ((swV T x1.toInt.toNat : Nat) : Int))) → mc ≤ 1 → ms ≤ 6 → R (.inl (some (.int z))) hp1 mc ms) : cK (d + 20) 363 [.ref 0, .int x1, .ref 83] hp R := by
  refine cin (M := am_m363) rfl rfl rfl ?_
  refine cald 1 ⟨u363J, _, rfl⟩ rfl rfl ?_
  refine ccst 2 (0) ⟨u363J, _, rfl⟩ rfl (by decide) (fun z1 h1 => ?_)
  refine cald 3 ⟨u363J, _, rfl⟩ rfl rfl ?_
  refine cild 4 ⟨u363J, _, rfl⟩ rfl rfl ?_
  refine ccall (kd := 0) (t := 1) [.ref 0, .int _] [.int _, .ref 83] hI.1 ⟨u363J, _, rfl⟩ (Or.inl ⟨_, rfl, rfl, by decide, by decide⟩) rfl rfl rfl ⟨rfl, rfl, rfl⟩ rfl (recv0 hI.1 _) rfl (qKE (Φ := fun z hp1 => bHk 84 bTT hp1 ∧ cF hp hp1 ∧ gTri (nQ T) x1.toInt = 0 ∧ clS hp1 (V, T, ty) n h sv ∧ z.toInt = ((swV T x1.toInt.toNat : Nat) : Int)) (Ψ := fun E hp1 => lawI hp1 ∧ rfS hp1 (V, T, ty) n h sv ∧ clS hp1 (V, T, ty) n h sv ∧ ¬ gTri (nQ T) x1.toInt = 0 ∧ ((gTri (nQ T) x1.toInt = 1 ∧ E = 1))) (fun R g1 g2 => k_137E (d := d + 13) hI.1 c (fun E e1 e2 => g2 E hp ⟨hI, r, c, e1, (by
      rcases e2 with z | z | z
      · exact z
      · exfalso; have := gTri_12 (n := nQ T) (t := x1.toInt); omega
      · exfalso; have := gTri_12 (n := nQ T) (t := x1.toInt); omega)⟩) (fun z hp1 a1 a2 a3 a4 a5 => g1 z hp1 ⟨a1, a2, a3, a4, a5⟩)) (fun z hp1 φ => Or.inl ⟨_, rfl, ?_⟩) (fun E hp1 ψ => Or.inr ?_))
  · refine ci2lE 8 ⟨u363J, _, rfl⟩ rfl (fun w hw => ?_)
    refine clastE 9 φ.1 ⟨u363J, _, rfl⟩ rfl h1 (fun hp2 hH2 F2 J2 => ?_)
    refine cgoto ⟨u363J, _, rfl⟩ ?_
    refine ccst 16 (0) ⟨u363J, _, rfl⟩ rfl (by decide) (fun z9 h9 => ?_)
    exact cret ⟨u363J, _, rfl⟩ (Or.inl rfl) (hR _ _ _ _ (lawI_83 (law_cl hI φ.1 φ.2.1) hH2 F2) (rf_83 F2 (cF_rf φ.2.1 r)) (by rw [φ.2.2.1]; exact h9) (Or.inr ⟨φ.2.2.1, cl_83 F2 φ.2.2.2.1, by rw [J2, hw]; exact φ.2.2.2.2⟩) (by decide) (by decide))
  · obtain ⟨ψ0, ψr, ψc, ψ1, ψ2⟩ := ψ
    obtain ⟨ce, rfl⟩ := ψ2
    refine ⟨1, 12, 3, 13, rfl, rfl, rfl, rfl, ?_⟩
    refine ccst 14 (1) ⟨u363J, _, rfl⟩ rfl (by decide) (fun z9 h9 => ?_)
    exact cret ⟨u363J, _, rfl⟩ (Or.inl rfl) (hR _ _ _ _ ψ0 ψr (by rw [ce]; exact h9) (Or.inl ⟨ψ1, ψc⟩) (by decide) (by decide))
