/-! ===== find on both sides ===== -/
theorem u121 : bUp 0 am_m121.1 = true := by decide +kernel
theorem k_121E {d V n : Nat} {h : Nat → sR} {sv : Option sR} {T : sT} {ty : Nat → Int} {hp : amH} {R : xQ} {a b c : Int32} (hH : bHk 84 bTT hp) (hS : clS hp (V, T, ty) n h sv)
    (hT : ∀ E hp1, bHk 84 bTT hp1 → cF hp hp1 → clS hp1 (V, T, ty) n h sv → ¬ gSet V a.toInt b.toInt c.toInt = 0 → ((gSet V a.toInt b.toInt c.toInt = 1 ∧ E = 1) ∨ (gSet V a.toInt b.toInt c.toInt = 2 ∧ E = 0)) → R (.inr E) hp1)
    (hR : ∀ (z : Int32) hp1, bHk 84 bTT hp1 → cF hp hp1 → gSet V a.toInt b.toInt c.toInt = 0 → clS hp1 (V, T, ty) n h sv → z.toInt = nmT T (m3 a.toInt.toNat b.toInt.toNat c.toInt.toNat) → R (.inl (some (.int z))) hp1) : xK (d + 5) 121 [.ref 0, .int a, .int b, .int c] hp R := by
  have hB : bdOk hp 3 V T := hS.1
  have b0 : rN hp 3 0 = (V : Int) := hB.1
  have hL : lsN hp 3 T 225 := hS.2.1
  have b1 : rN hp 3 1 = (((trL T 225).length : Nat) : Int) := hL.1
  have hT0 : sOk V T := hB.2.1
  have h15 : V ≤ 15 := hT0.2.1
  have l35 : (trL T 225).length ≤ 35 := trL_35 hT0 225
  have nq0 : rN hp 49 0 = ((nQ T : Nat) : Int) := hS.2.2.1.1
  refine xin (M := am_m121) rfl rfl rfl ?_
  refine xald 1 ⟨u121, _, rfl⟩ rfl rfl ?_
  refine xild 2 ⟨u121, _, rfl⟩ rfl rfl ?_
  refine xild 3 ⟨u121, _, rfl⟩ rfl rfl ?_
  refine xild 4 ⟨u121, _, rfl⟩ rfl rfl ?_
  refine xcallT 7 (o := 0) [.int _, .int _, .int _] [] hH ⟨u121, _, rfl⟩ rfl rfl (by decide) rfl (by decide) rfl ⟨rfl, rfl, rfl, rfl⟩ rfl (k_rq3 hH b0 (fun g4 => Or.inl ⟨_, rfl, ?_⟩) (fun g4 => Or.inr ⟨_, rfl, rfl, hT _ hp hH cF.refl hS (by omega) (Or.inl ⟨g4, rfl⟩)⟩) (fun g4 => Or.inr ⟨_, rfl, rfl, hT _ hp hH cF.refl hS (by omega) (Or.inr ⟨g4, rfl⟩)⟩))
  have k4 := gSet_0.mp g4
  refine xald 8 ⟨u121, _, rfl⟩ rfl rfl ?_
  refine xgetD 11 (3) hH ⟨u121, _, rfl⟩ rfl (by decide) (by decide) rfl rfl (by decide) ?_
  refine xild 12 ⟨u121, _, rfl⟩ rfl rfl ?_
  refine xild 13 ⟨u121, _, rfl⟩ rfl rfl ?_
  refine xild 14 ⟨u121, _, rfl⟩ rfl rfl ?_
  refine xcallS 17 [.int _, .int _, .int _] [.ref 3] hH ⟨u121, _, rfl⟩ rfl rfl rfl rfl rfl (k_three (x := a.toInt.toNat) (y := b.toInt.toNat) (z := c.toInt.toNat) (by omega) (by omega) (by omega) (by omega) (by omega) (by omega) (fun z14 h14 => ⟨_, rfl, ?_⟩))
  refine xcallC 20 (o := 3) [.int _] [] hH ⟨u121, _, rfl⟩ rfl rfl (by decide) rfl (by decide) rfl ⟨rfl, rfl, rfl, rfl⟩ rfl (k_nof (o := 3) (a := a.toInt.toNat) (b := b.toInt.toNat) (c := c.toInt.toNat) (Or.inl rfl) hH hB hL h14 (by omega) (by omega) (by omega) (by omega) (by omega) (by omega) (fun z17 h17 => ⟨_, rfl, ?_⟩))
  exact xret ⟨u121, _, rfl⟩ rfl (hR _ _ hH cF.refl g4 hS h17)
theorem u265 : bUp 0 am_m265.1 = true := by decide +kernel
theorem k_265E {d V n : Nat} {h : Nat → sR} {sv : Option sR} {T : sT} {ty : Nat → Int} {hp : amH} {R : xQ} {a b c : Int32} (hH : bHk 84 bTT hp) (hP : P0 hp) (hS : rfS hp (V, T, ty) n h sv)
    (hR : ∀ (z : Int32) hp1, bHk 84 bTT hp1 → P0 hp1 → bFr wM hp hp1 → rN hp1 66 7 = gSet V a.toInt b.toInt c.toInt → ((¬ gSet V a.toInt b.toInt c.toInt = 0 ∧ rfS hp1 (V, T, ty) n h sv) ∨ (gSet V a.toInt b.toInt c.toInt = 0 ∧ rfS hp1 (V, T, ty) n h sv ∧ z.toInt = nmT T (m3 a.toInt.toNat b.toInt.toNat c.toInt.toNat))) → R (.inl (some (.int z))) hp1) : xK (d + 4) 265 [.ref 66, .int a, .int b, .int c] hp R := by
  have hB : rdOk hp V T := rowOk_rd hS.1
  have b0 : rN hp 67 0 = (V : Int) := hB.1
  have hT0 : sOk V T := hB.2.1
  have h15 : V ≤ 15 := hT0.2.1
  have l35 : (trL T 225).length ≤ 35 := trL_35 hT0 225
  refine xin (M := am_m265) rfl rfl rfl ?_
  refine xald 1 ⟨u265, _, rfl⟩ rfl rfl ?_
  refine xild 2 ⟨u265, _, rfl⟩ rfl rfl ?_
  refine xild 3 ⟨u265, _, rfl⟩ rfl rfl ?_
  refine xild 4 ⟨u265, _, rfl⟩ rfl rfl ?_
  refine xcall 7 [.ref 66, .int _, .int _, .int _] [] hH ⟨u265, _, rfl⟩ rfl rfl rfl rfl rfl (k_gp3 hH b0 h15 (fun z4 hp4 hH4 F4 t4 o4 => ⟨_, rfl, ?_⟩))
  have S4 := rfS_W hS F4 (fun _ => rfl) rfl rfl (fun _ => rfl) (fun _ => rfl)
  have P4 : P0 hp4 := P0_W (W := [(66, 7)]) (by decide) F4 hP
  refine xif_eq 10 ⟨u265, _, rfl⟩ rfl (fun c7 => ?_) (fun c7 => ?_)
  · have g4 : gSet V a.toInt b.toInt c.toInt = 0 := by omega
    have k4 := gSet_0.mp g4
    refine xald 13 ⟨u265, _, rfl⟩ rfl rfl ?_
    refine xcall 16 [.ref 66] [] hH4 ⟨u265, _, rfl⟩ rfl rfl rfl rfl rfl (k_rlst hH4 (V := V) (T := T) (show rdOk hp4 V T from rowOk_rd S4.1) (fun hp13 hH13 F13 B13 L13 => ⟨_, rfl, ?_⟩))
    have S13 := rfS_W S4 F13 (fun _ => rfl) rfl rfl (fun _ => rfl) (fun _ => rfl)
    have P13 : P0 hp13 := P0_W (W := bLT) (by decide) F13 P4
    refine xald 17 ⟨u265, _, rfl⟩ rfl rfl ?_
    refine xcst 18 (1) ⟨u265, _, rfl⟩ rfl (by decide) (fun z17 h17 => ?_)
    refine xild 19 ⟨u265, _, rfl⟩ rfl rfl ?_
    refine xshl 20 ⟨u265, _, rfl⟩ rfl ?_
    refine xcst 21 (1) ⟨u265, _, rfl⟩ rfl (by decide) (fun z20 h20 => ?_)
    refine xild 22 ⟨u265, _, rfl⟩ rfl rfl ?_
    refine xshl 23 ⟨u265, _, rfl⟩ rfl ?_
    refine xor_ 24 ⟨u265, _, rfl⟩ rfl ?_
    refine xcst 25 (1) ⟨u265, _, rfl⟩ rfl (by decide) (fun z24 h24 => ?_)
    refine xild 26 ⟨u265, _, rfl⟩ rfl rfl ?_
    refine xshl 27 ⟨u265, _, rfl⟩ rfl ?_
    refine xor_ 28 ⟨u265, _, rfl⟩ rfl ?_
    have e1 := i_shl h17 (n := a.toInt.toNat) (c := a) (by omega) (by omega)
    have e2 := i_shl h20 (n := b.toInt.toNat) (c := b) (by omega) (by omega)
    have e3 := i_or e1.1 e2.1 e1.2 e2.2
    have e4 := i_shl h24 (n := c.toInt.toNat) (c := c) (by omega) (by omega)
    have e5 := i_or e3.1 e4.1 e3.2 e4.2
    refine xcall 31 [.ref 66, .int _] [] hH13 ⟨u265, _, rfl⟩ rfl rfl rfl rfl rfl (k_rnof hH13 B13 L13 (m := m3 a.toInt.toNat b.toInt.toNat c.toInt.toNat) e5.1 (fun z28 h28 => ⟨_, rfl, ?_⟩))
    exact xret ⟨u265, _, rfl⟩ rfl (hR _ hp13 hH13 P13 ((bFr_sub F4 (by decide)).trans (bFr_sub F13 (by decide))) (by rw [show rN hp13 66 7 = rN hp4 66 7 from r_fr F13 rfl]; exact t4) (Or.inr ⟨g4, S13, h28⟩))
  · refine xcst 11 (0) ⟨u265, _, rfl⟩ rfl (by decide) (fun z10 h10 => ?_)
    exact xret ⟨u265, _, rfl⟩ rfl (hR _ hp4 hH4 P4 (bFr_sub F4 (by decide)) t4 (Or.inl ⟨by omega, S4⟩))
theorem h350E {d : Nat} {hp : amH} {R : cQ} {x1 x2 x3 : Int32} {V n : Nat} {h : Nat → sR} {sv : Option sR} {T : sT} {ty : Nat → Int} (hI : lawI hp) (c : clS hp (V, T, ty) n h sv) (r : rfS hp (V, T, ty) n h sv)
    (hR : ∀ (z : Int32) hp1 mc ms, lawI hp1 → rfS hp1 (V, T, ty) n h sv → z.toInt = gSet V x1.toInt x2.toInt x3.toInt → ((¬ gSet V x1.toInt x2.toInt x3.toInt = 0 ∧ clS hp1 (V, T, ty) n h sv) ∨ (gSet V x1.toInt x2.toInt x3.toInt = 0 ∧ clS hp1 (V, T, ty) n h sv ∧ rJ hp1 83 0 = nmT T (m3 x1.toInt.toNat x2.toInt.toNat x3.toInt.toNat))) → mc ≤ 1 → ms ≤ 6 → R (.inl (some (.int z))) hp1 mc ms) : cK (d + 20) 350 [.ref 0, .int x1, .int x2, .int x3, .ref 83] hp R := by
  refine cin (M := am_m350) rfl rfl rfl ?_
  refine cald2 2 ⟨u350J, _, rfl⟩ rfl rfl ?_
  refine ccst 3 (0) ⟨u350J, _, rfl⟩ rfl (by decide) (fun z2 h2 => ?_)
  refine cald 4 ⟨u350J, _, rfl⟩ rfl rfl ?_
  refine cild 5 ⟨u350J, _, rfl⟩ rfl rfl ?_
  refine cild 6 ⟨u350J, _, rfl⟩ rfl rfl ?_
  refine cild 7 ⟨u350J, _, rfl⟩ rfl rfl ?_
  refine ccall (kd := 0) (t := 2) [.ref 0, .int _, .int _, .int _] [.int _, .ref 83] hI.1 ⟨u350J, _, rfl⟩ (Or.inl ⟨_, rfl, rfl, by decide, by decide⟩) rfl rfl rfl ⟨rfl, rfl, rfl⟩ rfl (recv0 hI.1 _) rfl (qKE (Φ := fun z hp1 => bHk 84 bTT hp1 ∧ cF hp hp1 ∧ gSet V x1.toInt x2.toInt x3.toInt = 0 ∧ clS hp1 (V, T, ty) n h sv ∧ z.toInt = nmT T (m3 x1.toInt.toNat x2.toInt.toNat x3.toInt.toNat)) (Ψ := fun E hp1 => lawI hp1 ∧ rfS hp1 (V, T, ty) n h sv ∧ clS hp1 (V, T, ty) n h sv ∧ ¬ gSet V x1.toInt x2.toInt x3.toInt = 0 ∧ ((gSet V x1.toInt x2.toInt x3.toInt = 1 ∧ E = 1) ∨ (gSet V x1.toInt x2.toInt x3.toInt = 2 ∧ E = 0))) (fun R g1 g2 => k_121E (d := d + 14) hI.1 c (fun E hp1 b1 b2 b3 e1 e2 => g2 E hp1 ⟨law_cl hI b1 b2, cF_rf b2 r, b3, e1, e2⟩) (fun z hp1 a1 a2 a3 a4 a5 => g1 z hp1 ⟨a1, a2, a3, a4, a5⟩)) (fun z hp1 φ => Or.inl ⟨_, rfl, ?_⟩) (fun E hp1 ψ => Or.inr ?_))
  · refine ci2lE 11 ⟨u350J, _, rfl⟩ rfl (fun w hw => ?_)
    refine clastE 12 φ.1 ⟨u350J, _, rfl⟩ rfl h2 (fun hp2 hH2 F2 J2 => ?_)
    refine cgoto ⟨u350J, _, rfl⟩ ?_
    refine ccst 24 (0) ⟨u350J, _, rfl⟩ rfl (by decide) (fun z9 h9 => ?_)
    exact cret ⟨u350J, _, rfl⟩ (Or.inl rfl) (hR _ _ _ _ (lawI_83 (law_cl hI φ.1 φ.2.1) hH2 F2) (rf_83 F2 (cF_rf φ.2.1 r)) (by rw [φ.2.2.1]; exact h9) (Or.inr ⟨φ.2.2.1, cl_83 F2 φ.2.2.2.1, by rw [J2, hw]; exact φ.2.2.2.2⟩) (by decide) (by decide))
  · obtain ⟨ψ0, ψr, ψc, ψ1, ψ2⟩ := ψ
    rcases ψ2 with ⟨ce, rfl⟩ | ⟨ce, rfl⟩
    · refine ⟨1, 15, 5, 17, rfl, rfl, rfl, rfl, ?_⟩
      refine ccst 18 (1) ⟨u350J, _, rfl⟩ rfl (by decide) (fun z9 h9 => ?_)
      exact cret ⟨u350J, _, rfl⟩ (Or.inl rfl) (hR _ _ _ _ ψ0 ψr (by rw [ce]; exact h9) (Or.inl ⟨ψ1, ψc⟩) (by decide) (by decide))
    · refine ⟨0, 19, 5, 21, rfl, rfl, rfl, rfl, ?_⟩
      refine ccst 22 (2) ⟨u350J, _, rfl⟩ rfl (by decide) (fun z9 h9 => ?_)
      exact cret ⟨u350J, _, rfl⟩ (Or.inl rfl) (hR _ _ _ _ ψ0 ψr (by rw [ce]; exact h9) (Or.inl ⟨ψ1, ψc⟩) (by decide) (by decide))
