/-! ===== third on both sides ===== -/
theorem u122 : bUp 0 am_m122.1 = true := by decide +kernel
theorem k_122E {d V n : Nat} {h : Nat → sR} {sv : Option sR} {T : sT} {ty : Nat → Int} {hp : amH} {R : xQ} {a b : Int32} (hH : bHk 84 bTT hp) (hS : clS hp (V, T, ty) n h sv)
    (hT : ∀ E hp1, bHk 84 bTT hp1 → cF hp hp1 → clS hp1 (V, T, ty) n h sv → ¬ gTwo V a.toInt b.toInt = 0 → ((gTwo V a.toInt b.toInt = 1 ∧ E = 1) ∨ (gTwo V a.toInt b.toInt = 2 ∧ E = 0)) → R (.inr E) hp1)
    (hR : ∀ (z : Int32) hp1, bHk 84 bTT hp1 → cF hp hp1 → gTwo V a.toInt b.toInt = 0 → clS hp1 (V, T, ty) n h sv → z.toInt = T a.toInt.toNat b.toInt.toNat → R (.inl (some (.int z))) hp1) : xK (d + 3) 122 [.ref 0, .int a, .int b] hp R := by
  have hB : bdOk hp 3 V T := hS.1
  have b0 : rN hp 3 0 = (V : Int) := hB.1
  have hL : lsN hp 3 T 225 := hS.2.1
  have b1 : rN hp 3 1 = (((trL T 225).length : Nat) : Int) := hL.1
  have hT0 : sOk V T := hB.2.1
  have h15 : V ≤ 15 := hT0.2.1
  have l35 : (trL T 225).length ≤ 35 := trL_35 hT0 225
  have nq0 : rN hp 49 0 = ((nQ T : Nat) : Int) := hS.2.2.1.1
  refine xin (M := am_m122) rfl rfl rfl ?_
  refine xald 1 ⟨u122, _, rfl⟩ rfl rfl ?_
  refine xild 2 ⟨u122, _, rfl⟩ rfl rfl ?_
  refine xild 3 ⟨u122, _, rfl⟩ rfl rfl ?_
  refine xcallT 6 (o := 0) [.int _, .int _] [] hH ⟨u122, _, rfl⟩ rfl rfl (by decide) rfl (by decide) rfl ⟨rfl, rfl, rfl, rfl⟩ rfl (k_rq2 hH b0 (fun g3 => Or.inl ⟨_, rfl, ?_⟩) (fun g3 => Or.inr ⟨_, rfl, rfl, hT _ hp hH cF.refl hS (by omega) (Or.inl ⟨g3, rfl⟩)⟩) (fun g3 => Or.inr ⟨_, rfl, rfl, hT _ hp hH cF.refl hS (by omega) (Or.inr ⟨g3, rfl⟩)⟩))
  have k3 := gTwo_0.mp g3
  refine xald 7 ⟨u122, _, rfl⟩ rfl rfl ?_
  refine xgetD 10 (3) hH ⟨u122, _, rfl⟩ rfl (by decide) (by decide) rfl rfl (by decide) ?_
  refine xild 11 ⟨u122, _, rfl⟩ rfl rfl ?_
  refine xild 12 ⟨u122, _, rfl⟩ rfl rfl ?_
  refine xcallC 15 (o := 3) [.int _, .int _] [] hH ⟨u122, _, rfl⟩ rfl rfl (by decide) rfl (by decide) rfl ⟨rfl, rfl, rfl, rfl⟩ rfl (k_thd (o := 3) (Or.inl rfl) hH hB (fun z12 h12 => ⟨_, rfl, ?_⟩))
  rw [if_pos (by omega)] at h12
  exact xret ⟨u122, _, rfl⟩ rfl (hR _ _ hH cF.refl g3 hS h12)
theorem u266 : bUp 0 am_m266.1 = true := by decide +kernel
theorem k_266E {d V n : Nat} {h : Nat → sR} {sv : Option sR} {T : sT} {ty : Nat → Int} {hp : amH} {R : xQ} {a b : Int32} (hH : bHk 84 bTT hp) (hP : P0 hp) (hS : rfS hp (V, T, ty) n h sv)
    (hR : ∀ (z : Int32) hp1, bHk 84 bTT hp1 → P0 hp1 → bFr wM hp hp1 → rN hp1 66 7 = gTwo V a.toInt b.toInt → ((¬ gTwo V a.toInt b.toInt = 0 ∧ rfS hp1 (V, T, ty) n h sv) ∨ (gTwo V a.toInt b.toInt = 0 ∧ rfS hp1 (V, T, ty) n h sv ∧ z.toInt = T a.toInt.toNat b.toInt.toNat)) → R (.inl (some (.int z))) hp1) : xK (d + 3) 266 [.ref 66, .int a, .int b] hp R := by
  have hB : rdOk hp V T := rowOk_rd hS.1
  have b0 : rN hp 67 0 = (V : Int) := hB.1
  have hT0 : sOk V T := hB.2.1
  have h15 : V ≤ 15 := hT0.2.1
  have l35 : (trL T 225).length ≤ 35 := trL_35 hT0 225
  refine xin (M := am_m266) rfl rfl rfl ?_
  refine xald 1 ⟨u266, _, rfl⟩ rfl rfl ?_
  refine xild 2 ⟨u266, _, rfl⟩ rfl rfl ?_
  refine xild 3 ⟨u266, _, rfl⟩ rfl rfl ?_
  refine xcall 6 [.ref 66, .int _, .int _] [] hH ⟨u266, _, rfl⟩ rfl rfl rfl rfl rfl (k_gp2 hH b0 h15 (fun z3 hp3 hH3 F3 t3 o3 => ⟨_, rfl, ?_⟩))
  have S3 := rfS_W hS F3 (fun _ => rfl) rfl rfl (fun _ => rfl) (fun _ => rfl)
  have P3 : P0 hp3 := P0_W (W := [(66, 7)]) (by decide) F3 hP
  refine xif_eq 9 ⟨u266, _, rfl⟩ rfl (fun c6 => ?_) (fun c6 => ?_)
  · have g3 : gTwo V a.toInt b.toInt = 0 := by omega
    have k3 := gTwo_0.mp g3
    refine xald 14 ⟨u266, _, rfl⟩ rfl rfl ?_
    refine xild 15 ⟨u266, _, rfl⟩ rfl rfl ?_
    refine xild 16 ⟨u266, _, rfl⟩ rfl rfl ?_
    refine xcall 19 [.ref 66, .int _, .int _] [] hH3 ⟨u266, _, rfl⟩ rfl rfl rfl rfl rfl (k_third hH3 (by omega) (by omega) (by omega) (by omega) (fun z16 h16 => ⟨_, rfl, ?_⟩))
    have h16 := h16.trans ((show rdOk hp3 V T from rowOk_rd S3.1).2.2.1 a.toInt.toNat b.toInt.toNat (by omega) (by omega))
    exact xret ⟨u266, _, rfl⟩ rfl (hR _ hp3 hH3 P3 (bFr_sub F3 (by decide)) t3 (Or.inr ⟨g3, S3, h16⟩))
  · refine xcst 10 (0) ⟨u266, _, rfl⟩ rfl (by decide) (fun z9 h9 => ?_)
    refine xgoto ⟨u266, _, rfl⟩ ?_
    exact xret ⟨u266, _, rfl⟩ rfl (hR _ hp3 hH3 P3 (bFr_sub F3 (by decide)) t3 (Or.inl ⟨by omega, S3⟩))
theorem h351E {d : Nat} {hp : amH} {R : cQ} {x1 x2 : Int32} {V n : Nat} {h : Nat → sR} {sv : Option sR} {T : sT} {ty : Nat → Int} (hI : lawI hp) (c : clS hp (V, T, ty) n h sv) (r : rfS hp (V, T, ty) n h sv)
    (hR : ∀ (z : Int32) hp1 mc ms, lawI hp1 → rfS hp1 (V, T, ty) n h sv → z.toInt = gTwo V x1.toInt x2.toInt → ((¬ gTwo V x1.toInt x2.toInt = 0 ∧ clS hp1 (V, T, ty) n h sv) ∨ (gTwo V x1.toInt x2.toInt = 0 ∧ clS hp1 (V, T, ty) n h sv ∧ rJ hp1 83 0 = T x1.toInt.toNat x2.toInt.toNat)) → mc ≤ 1 → ms ≤ 6 → R (.inl (some (.int z))) hp1 mc ms) : cK (d + 20) 351 [.ref 0, .int x1, .int x2, .ref 83] hp R := by
  refine cin (M := am_m351) rfl rfl rfl ?_
  refine cald 1 ⟨u351J, _, rfl⟩ rfl rfl ?_
  refine ccst 2 (0) ⟨u351J, _, rfl⟩ rfl (by decide) (fun z1 h1 => ?_)
  refine cald 3 ⟨u351J, _, rfl⟩ rfl rfl ?_
  refine cild 4 ⟨u351J, _, rfl⟩ rfl rfl ?_
  refine cild 5 ⟨u351J, _, rfl⟩ rfl rfl ?_
  refine ccall (kd := 0) (t := 2) [.ref 0, .int _, .int _] [.int _, .ref 83] hI.1 ⟨u351J, _, rfl⟩ (Or.inl ⟨_, rfl, rfl, by decide, by decide⟩) rfl rfl rfl ⟨rfl, rfl, rfl⟩ rfl (recv0 hI.1 _) rfl (qKE (Φ := fun z hp1 => bHk 84 bTT hp1 ∧ cF hp hp1 ∧ gTwo V x1.toInt x2.toInt = 0 ∧ clS hp1 (V, T, ty) n h sv ∧ z.toInt = T x1.toInt.toNat x2.toInt.toNat) (Ψ := fun E hp1 => lawI hp1 ∧ rfS hp1 (V, T, ty) n h sv ∧ clS hp1 (V, T, ty) n h sv ∧ ¬ gTwo V x1.toInt x2.toInt = 0 ∧ ((gTwo V x1.toInt x2.toInt = 1 ∧ E = 1) ∨ (gTwo V x1.toInt x2.toInt = 2 ∧ E = 0))) (fun R g1 g2 => k_122E (d := d + 16) hI.1 c (fun E hp1 b1 b2 b3 e1 e2 => g2 E hp1 ⟨law_cl hI b1 b2, cF_rf b2 r, b3, e1, e2⟩) (fun z hp1 a1 a2 a3 a4 a5 => g1 z hp1 ⟨a1, a2, a3, a4, a5⟩)) (fun z hp1 φ => Or.inl ⟨_, rfl, ?_⟩) (fun E hp1 ψ => Or.inr ?_))
  · refine ci2lE 9 ⟨u351J, _, rfl⟩ rfl (fun w hw => ?_)
    refine clastE 10 φ.1 ⟨u351J, _, rfl⟩ rfl h1 (fun hp2 hH2 F2 J2 => ?_)
    refine cgoto ⟨u351J, _, rfl⟩ ?_
    refine ccst 22 (0) ⟨u351J, _, rfl⟩ rfl (by decide) (fun z9 h9 => ?_)
    exact cret ⟨u351J, _, rfl⟩ (Or.inl rfl) (hR _ _ _ _ (lawI_83 (law_cl hI φ.1 φ.2.1) hH2 F2) (rf_83 F2 (cF_rf φ.2.1 r)) (by rw [φ.2.2.1]; exact h9) (Or.inr ⟨φ.2.2.1, cl_83 F2 φ.2.2.2.1, by rw [J2, hw]; exact φ.2.2.2.2⟩) (by decide) (by decide))
  · obtain ⟨ψ0, ψr, ψc, ψ1, ψ2⟩ := ψ
    rcases ψ2 with ⟨ce, rfl⟩ | ⟨ce, rfl⟩
    · refine ⟨1, 13, 4, 15, rfl, rfl, rfl, rfl, ?_⟩
      refine ccst 16 (1) ⟨u351J, _, rfl⟩ rfl (by decide) (fun z9 h9 => ?_)
      exact cret ⟨u351J, _, rfl⟩ (Or.inl rfl) (hR _ _ _ _ ψ0 ψr (by rw [ce]; exact h9) (Or.inl ⟨ψ1, ψc⟩) (by decide) (by decide))
    · refine ⟨0, 17, 4, 19, rfl, rfl, rfl, rfl, ?_⟩
      refine ccst 20 (2) ⟨u351J, _, rfl⟩ rfl (by decide) (fun z9 h9 => ?_)
      exact cret ⟨u351J, _, rfl⟩ (Or.inl rfl) (hR _ _ _ _ ψ0 ψr (by rw [ce]; exact h9) (Or.inl ⟨ψ1, ψc⟩) (by decide) (by decide))
