/-! ===== cycles on both sides ===== -/
theorem u140 : bUp 0 am_m140.1 = true := by decide +kernel
theorem k_140E {d V n : Nat} {h : Nat → sR} {sv : Option sR} {T : sT} {ty : Nat → Int} {hp : amH} {R : xQ} {a b : Int32} (hH : bHk 84 bTT hp) (hS : clS hp (V, T, ty) n h sv)
    (hT : ∀ E hp1, bHk 84 bTT hp1 → cF hp hp1 → clS hp1 (V, T, ty) n h sv → ¬ gTwo V a.toInt b.toInt = 0 → ((gTwo V a.toInt b.toInt = 1 ∧ E = 1) ∨ (gTwo V a.toInt b.toInt = 2 ∧ E = 0)) → R (.inr E) hp1)
    (hR : ∀ (z : Int32) hp1, bHk 84 bTT hp1 → cF hp hp1 → gTwo V a.toInt b.toInt = 0 → clS hp1 (V, T, ty) n h sv → z.toInt = (((cyS T a.toInt.toNat b.toInt.toNat V).length : Nat) : Int) → R (.inl (some (.int z))) hp1) : xK (d + 5) 140 [.ref 0, .int a, .int b] hp R := by
  have hB : bdOk hp 3 V T := hS.1
  have b0 : rN hp 3 0 = (V : Int) := hB.1
  have hL : lsN hp 3 T 225 := hS.2.1
  have b1 : rN hp 3 1 = (((trL T 225).length : Nat) : Int) := hL.1
  have hT0 : sOk V T := hB.2.1
  have h15 : V ≤ 15 := hT0.2.1
  have l35 : (trL T 225).length ≤ 35 := trL_35 hT0 225
  refine xin (M := am_m140) rfl rfl rfl ?_
  refine xald 1 ⟨u140, _, rfl⟩ rfl rfl ?_
  refine xild 2 ⟨u140, _, rfl⟩ rfl rfl ?_
  refine xild 3 ⟨u140, _, rfl⟩ rfl rfl ?_
  refine xcallT 6 (o := 0) [.int _, .int _] [] hH ⟨u140, _, rfl⟩ rfl rfl (by decide) rfl (by decide) rfl ⟨rfl, rfl, rfl, rfl⟩ rfl (k_rq2 hH b0 (fun g3 => Or.inl ⟨_, rfl, ?_⟩) (fun g3 => Or.inr ⟨_, rfl, rfl, hT _ hp hH cF.refl hS (by omega) (Or.inl ⟨g3, rfl⟩)⟩) (fun g3 => Or.inr ⟨_, rfl, rfl, hT _ hp hH cF.refl hS (by omega) (Or.inr ⟨g3, rfl⟩)⟩))
  have k3 := gTwo_0.mp g3
  refine xald 7 ⟨u140, _, rfl⟩ rfl rfl ?_
  refine xgetD 10 (52) hH ⟨u140, _, rfl⟩ rfl (by decide) (by decide) rfl rfl (by decide) ?_
  refine xald 11 ⟨u140, _, rfl⟩ rfl rfl ?_
  refine xgetD 14 (3) hH ⟨u140, _, rfl⟩ rfl (by decide) (by decide) rfl rfl (by decide) ?_
  refine xild 15 ⟨u140, _, rfl⟩ rfl rfl ?_
  refine xild 16 ⟨u140, _, rfl⟩ rfl rfl ?_
  refine xcallC 19 (o := 52) [.ref 3, .int _, .int _] [] hH ⟨u140, _, rfl⟩ rfl rfl (by decide) rfl (by decide) rfl ⟨rfl, rfl, rfl, rfl⟩ rfl (k_gaC hH hB hL (a := a.toInt.toNat) (b := b.toInt.toNat) (by omega) (by omega) (by omega) (by omega) (by omega) (fun hp16 hH16 F16 C16 => ⟨_, rfl, ?_⟩))
  refine xald 20 ⟨u140, _, rfl⟩ rfl rfl ?_
  refine xgetD 23 (52) hH16 ⟨u140, _, rfl⟩ rfl (by decide) (by decide) rfl rfl (by decide) ?_
  refine xgetC 26 hH16 ⟨u140, _, rfl⟩ rfl (by decide) (by decide) rfl rfl (by decide) (fun z23 h23 => ?_)
  exact xret ⟨u140, _, rfl⟩ rfl (hR _ hp16 hH16 (cF_x F16 (by simp)) g3 (clS_8 hS (fun c k hc => F16 c k (by simp; omega))) (by rw [h23]; exact C16.1))
theorem u297 : bUp 0 am_m297.1 = true := by decide +kernel
theorem k_297E {d V n : Nat} {h : Nat → sR} {sv : Option sR} {T : sT} {ty : Nat → Int} {hp : amH} {R : xQ} {a b : Int32} (hH : bHk 84 bTT hp) (hP : P0 hp) (hS : rfS hp (V, T, ty) n h sv)
    (hR : ∀ (z : Int32) hp1, bHk 84 bTT hp1 → P0 hp1 → bFr wM hp hp1 → rN hp1 66 7 = gTwo V a.toInt b.toInt → ((¬ gTwo V a.toInt b.toInt = 0 ∧ rfS hp1 (V, T, ty) n h sv) ∨ (gTwo V a.toInt b.toInt = 0 ∧ rfS hp1 (V, T, ty) n h sv ∧ z.toInt = (((cyS T a.toInt.toNat b.toInt.toNat V).length : Nat) : Int))) → R (.inl (some (.int z))) hp1) : xK (d + 5) 297 [.ref 66, .int a, .int b] hp R := by
  have hB : rdOk hp V T := rowOk_rd hS.1
  have b0 : rN hp 67 0 = (V : Int) := hB.1
  have hT0 : sOk V T := hB.2.1
  have h15 : V ≤ 15 := hT0.2.1
  have l35 : (trL T 225).length ≤ 35 := trL_35 hT0 225
  refine xin (M := am_m297) rfl rfl rfl ?_
  refine xald 1 ⟨u297, _, rfl⟩ rfl rfl ?_
  refine xild 2 ⟨u297, _, rfl⟩ rfl rfl ?_
  refine xild 3 ⟨u297, _, rfl⟩ rfl rfl ?_
  refine xcall 6 [.ref 66, .int _, .int _] [] hH ⟨u297, _, rfl⟩ rfl rfl rfl rfl rfl (k_gp2 hH b0 h15 (fun z3 hp3 hH3 F3 t3 o3 => ⟨_, rfl, ?_⟩))
  have S3 := rfS_W hS F3 (fun _ => rfl) rfl rfl (fun _ => rfl) (fun _ => rfl)
  have P3 : P0 hp3 := P0_W (W := [(66, 7)]) (by decide) F3 hP
  refine xif_eq 9 ⟨u297, _, rfl⟩ rfl (fun c6 => ?_) (fun c6 => ?_)
  · have g3 : gTwo V a.toInt b.toInt = 0 := by omega
    have k3 := gTwo_0.mp g3
    refine xald 14 ⟨u297, _, rfl⟩ rfl rfl ?_
    refine xild 15 ⟨u297, _, rfl⟩ rfl rfl ?_
    refine xild 16 ⟨u297, _, rfl⟩ rfl rfl ?_
    refine xcall 19 [.ref 66, .int _, .int _] [] hH3 ⟨u297, _, rfl⟩ rfl rfl rfl rfl rfl (k_227E hH3 (rowOk_rd S3.1) (a := a.toInt.toNat) (b := b.toInt.toNat) (by omega) (by omega) (by omega) (by omega) (fun z16 hp16 hH16 F16 h16 => ⟨_, rfl, ?_⟩))
    exact xret ⟨u297, _, rfl⟩ rfl (hR _ hp16 hH16 (P0_W (W := wWkE) (by decide) F16 P3) ((bFr_sub F3 (by decide)).trans (bFr_sub F16 (by decide))) (by rw [show rN hp16 66 7 = rN hp3 66 7 from r_fr F16 rfl]; exact t3) (Or.inr ⟨g3, rfS_W S3 F16 (fun _ => rfl) rfl rfl (fun _ => rfl) (fun _ => rfl), h16⟩))
  · refine xcst 10 (0) ⟨u297, _, rfl⟩ rfl (by decide) (fun z9 h9 => ?_)
    refine xgoto ⟨u297, _, rfl⟩ ?_
    exact xret ⟨u297, _, rfl⟩ rfl (hR _ hp3 hH3 P3 (bFr_sub F3 (by decide)) t3 (Or.inl ⟨by omega, S3⟩))
theorem h365E {d : Nat} {hp : amH} {R : cQ} {x1 x2 : Int32} {V n : Nat} {h : Nat → sR} {sv : Option sR} {T : sT} {ty : Nat → Int} (hI : lawI hp) (c : clS hp (V, T, ty) n h sv) (r : rfS hp (V, T, ty) n h sv)
    (hR : ∀ (z : Int32) hp1 mc ms, lawI hp1 → rfS hp1 (V, T, ty) n h sv → z.toInt = gTwo V x1.toInt x2.toInt → ((¬ gTwo V x1.toInt x2.toInt = 0 ∧ clS hp1 (V, T, ty) n h sv) ∨ (gTwo V x1.toInt x2.toInt = 0 ∧ clS hp1 (V, T, ty) n h sv ∧ rJ hp1 83 0 = (((cyS T x1.toInt.toNat x2.toInt.toNat V).length : Nat) : Int))) → mc ≤ 1 → ms ≤ 6 → R (.inl (some (.int z))) hp1 mc ms) : cK (d + 20) 365 [.ref 0, .int x1, .int x2, .ref 83] hp R := by
  refine cin (M := am_m365) rfl rfl rfl ?_
  refine cald 1 ⟨u365J, _, rfl⟩ rfl rfl ?_
  refine ccst 2 (0) ⟨u365J, _, rfl⟩ rfl (by decide) (fun z1 h1 => ?_)
  refine cald 3 ⟨u365J, _, rfl⟩ rfl rfl ?_
  refine cild 4 ⟨u365J, _, rfl⟩ rfl rfl ?_
  refine cild 5 ⟨u365J, _, rfl⟩ rfl rfl ?_
  refine ccall (kd := 0) (t := 2) [.ref 0, .int _, .int _] [.int _, .ref 83] hI.1 ⟨u365J, _, rfl⟩ (Or.inl ⟨_, rfl, rfl, by decide, by decide⟩) rfl rfl rfl ⟨rfl, rfl, rfl⟩ rfl (recv0 hI.1 _) rfl (qKE (Φ := fun z hp1 => bHk 84 bTT hp1 ∧ cF hp hp1 ∧ gTwo V x1.toInt x2.toInt = 0 ∧ clS hp1 (V, T, ty) n h sv ∧ z.toInt = (((cyS T x1.toInt.toNat x2.toInt.toNat V).length : Nat) : Int)) (Ψ := fun E hp1 => lawI hp1 ∧ rfS hp1 (V, T, ty) n h sv ∧ clS hp1 (V, T, ty) n h sv ∧ ¬ gTwo V x1.toInt x2.toInt = 0 ∧ ((gTwo V x1.toInt x2.toInt = 1 ∧ E = 1) ∨ (gTwo V x1.toInt x2.toInt = 2 ∧ E = 0))) (fun R g1 g2 => k_140E (d := d + 14) hI.1 c (fun E hp1 b1 b2 b3 e1 e2 => g2 E hp1 ⟨law_cl hI b1 b2, cF_rf b2 r, b3, e1, e2⟩) (fun z hp1 a1 a2 a3 a4 a5 => g1 z hp1 ⟨a1, a2, a3, a4, a5⟩)) (fun z hp1 φ => Or.inl ⟨_, rfl, ?_⟩) (fun E hp1 ψ => Or.inr ?_))
  · refine ci2lE 9 ⟨u365J, _, rfl⟩ rfl (fun w hw => ?_)
    refine clastE 10 φ.1 ⟨u365J, _, rfl⟩ rfl h1 (fun hp2 hH2 F2 J2 => ?_)
    refine cgoto ⟨u365J, _, rfl⟩ ?_
    refine ccst 22 (0) ⟨u365J, _, rfl⟩ rfl (by decide) (fun z9 h9 => ?_)
    exact cret ⟨u365J, _, rfl⟩ (Or.inl rfl) (hR _ _ _ _ (lawI_83 (law_cl hI φ.1 φ.2.1) hH2 F2) (rf_83 F2 (cF_rf φ.2.1 r)) (by rw [φ.2.2.1]; exact h9) (Or.inr ⟨φ.2.2.1, cl_83 F2 φ.2.2.2.1, by rw [J2, hw]; exact φ.2.2.2.2⟩) (by decide) (by decide))
  · obtain ⟨ψ0, ψr, ψc, ψ1, ψ2⟩ := ψ
    rcases ψ2 with ⟨ce, rfl⟩ | ⟨ce, rfl⟩
    · refine ⟨1, 13, 4, 15, rfl, rfl, rfl, rfl, ?_⟩
      refine ccst 16 (1) ⟨u365J, _, rfl⟩ rfl (by decide) (fun z9 h9 => ?_)
      exact cret ⟨u365J, _, rfl⟩ (Or.inl rfl) (hR _ _ _ _ ψ0 ψr (by rw [ce]; exact h9) (Or.inl ⟨ψ1, ψc⟩) (by decide) (by decide))
    · refine ⟨0, 17, 4, 19, rfl, rfl, rfl, rfl, ?_⟩
      refine ccst 20 (2) ⟨u365J, _, rfl⟩ rfl (by decide) (fun z9 h9 => ?_)
      exact cret ⟨u365J, _, rfl⟩ (Or.inl rfl) (hR _ _ _ _ ψ0 ψr (by rw [ce]; exact h9) (Or.inl ⟨ψ1, ψc⟩) (by decide) (by decide))
