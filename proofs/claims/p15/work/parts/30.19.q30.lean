/-! ===== cycleLength on both sides ===== -/
theorem u141 : bUp 0 am_m141.1 = true := by decide +kernel
theorem k_141E {d V n : Nat} {h : Nat → sR} {sv : Option sR} {T : sT} {ty : Nat → Int} {hp : amH} {R : xQ} {a b c : Int32} (hH : bHk 84 bTT hp) (hS : clS hp (V, T, ty) n h sv)
    (hT : ∀ E hp1, bHk 84 bTT hp1 → cF hp hp1 → clS hp1 (V, T, ty) n h sv → ¬ gCy V T a.toInt b.toInt c.toInt = 0 → ((gCy V T a.toInt b.toInt c.toInt = 1 ∧ E = 1) ∨ (gCy V T a.toInt b.toInt c.toInt = 2 ∧ E = 0) ∨ (gCy V T a.toInt b.toInt c.toInt = 3 ∧ E = 3)) → R (.inr E) hp1)
    (hR : ∀ (z : Int32) hp1, bHk 84 bTT hp1 → cF hp hp1 → gCy V T a.toInt b.toInt c.toInt = 0 → clS hp1 (V, T, ty) n h sv → z.toInt = ((cyL T a.toInt.toNat b.toInt.toNat (cyX V T a.toInt b.toInt c.toInt) : Nat) : Int) → R (.inl (some (.int z))) hp1) : xK (d + 5) 141 [.ref 0, .int a, .int b, .int c] hp R := by
  have hB : bdOk hp 3 V T := hS.1
  have b0 : rN hp 3 0 = (V : Int) := hB.1
  have hL : lsN hp 3 T 225 := hS.2.1
  have b1 : rN hp 3 1 = (((trL T 225).length : Nat) : Int) := hL.1
  have hT0 : sOk V T := hB.2.1
  have h15 : V ≤ 15 := hT0.2.1
  have l35 : (trL T 225).length ≤ 35 := trL_35 hT0 225
  refine xin (M := am_m141) rfl rfl rfl ?_
  refine xald 1 ⟨u141, _, rfl⟩ rfl rfl ?_
  refine xild 2 ⟨u141, _, rfl⟩ rfl rfl ?_
  refine xild 3 ⟨u141, _, rfl⟩ rfl rfl ?_
  refine xild 4 ⟨u141, _, rfl⟩ rfl rfl ?_
  refine xcallT 7 (o := 0) [.int _, .int _, .int _] [] hH ⟨u141, _, rfl⟩ rfl rfl (by decide) rfl (by decide) rfl ⟨rfl, rfl, rfl, rfl⟩ rfl (k_rqC hH hS (fun E g2 e => Or.inr ⟨_, rfl, rfl, hT _ hp hH cF.refl hS (fun z => g2 (gCy_0.mp z).1) (by
    have gc : gCy V T a.toInt b.toInt c.toInt = gTwo V a.toInt b.toInt := by unfold gCy; rw [if_neg g2]
    rw [gc]
    rcases e with e | e | e
    · exact Or.inl e
    · exact Or.inr (Or.inl e)
    · exfalso; have := gTwo_12 (V := V) (a := a.toInt) (b := b.toInt); omega)⟩) (fun hp4 hH4 F4 g2 g3 => Or.inr ⟨_, rfl, rfl, hT _ hp4 hH4 (cF_x F4 (by simp)) (clS_8 hS (fun c k hc => F4 c k (by simp; omega))) (fun z => g3 (gCy_0.mp z).2) (Or.inr (Or.inr ⟨by unfold gCy; rw [if_pos g2, if_neg g3], rfl⟩))⟩) (fun hp4 hH4 F4 g2 g3 g4 C4 => Or.inl ⟨_, rfl, ?_⟩))
  have k2 := gTwo_0.mp g2
  have g0 : gCy V T a.toInt b.toInt c.toInt = 0 := gCy_0.mpr ⟨g2, g3, g4⟩
  obtain ⟨c1, c2, c3, c4, c5⟩ := C4
  have lq : c.toInt.toNat < (cyS T a.toInt.toNat b.toInt.toNat V).length := by omega
  obtain ⟨y1, -, y3⟩ := cy_15 (T := T) (n := V) hT0 (a := a.toInt.toNat) (b := b.toInt.toNat) (by omega) (by omega) (by omega) (Nat.le_refl V)
  have f1 := c4 c.toInt.toNat (by omega)
  have f2 := c4 (c.toInt.toNat + 1) (by omega)
  have f3 := offs_s (T := T) (a := a.toInt.toNat) (b := b.toInt.toNat) (L := cyS T a.toInt.toNat b.toInt.toNat V) (q := c.toInt.toNat)
  have f4 := y3 (c.toInt.toNat + 1) (by omega)
  refine xald 8 ⟨u141, _, rfl⟩ rfl rfl ?_
  refine xgetD 11 (52) hH4 ⟨u141, _, rfl⟩ rfl (by decide) (by decide) rfl rfl (by decide) ?_
  refine xild 12 ⟨u141, _, rfl⟩ rfl rfl ?_
  refine xcallC 15 (o := 52) [.int _] [] hH4 ⟨u141, _, rfl⟩ rfl rfl (by decide) rfl (by decide) rfl ⟨rfl, rfl, rfl, rfl⟩ rfl (k_lngC hH4 (n := c.toInt.toNat) (by omega) (by omega) (by omega) (by omega) (by omega) (fun z12 h12 => ⟨_, rfl, ?_⟩))
  exact xret ⟨u141, _, rfl⟩ rfl (hR _ hp4 hH4 (cF_x F4 (by simp)) g0 (clS_8 hS (fun c k hc => F4 c k (by simp; omega))) (by show _ = ((cyL T a.toInt.toNat b.toInt.toNat ((cyS T a.toInt.toNat b.toInt.toNat V).getD c.toInt.toNat 0) : Nat) : Int); omega))
theorem u298 : bUp 0 am_m298.1 = true := by decide +kernel
theorem k_298E {d V n : Nat} {h : Nat → sR} {sv : Option sR} {T : sT} {ty : Nat → Int} {hp : amH} {R : xQ} {a b c : Int32} (hH : bHk 84 bTT hp) (hP : P0 hp) (hS : rfS hp (V, T, ty) n h sv)
    (hR : ∀ (z : Int32) hp1, bHk 84 bTT hp1 → P0 hp1 → bFr wM hp hp1 → rN hp1 66 7 = gCy V T a.toInt b.toInt c.toInt → ((¬ gCy V T a.toInt b.toInt c.toInt = 0 ∧ rfS hp1 (V, T, ty) n h sv) ∨ (gCy V T a.toInt b.toInt c.toInt = 0 ∧ rfS hp1 (V, T, ty) n h sv ∧ z.toInt = ((cyL T a.toInt.toNat b.toInt.toNat (cyX V T a.toInt b.toInt c.toInt) : Nat) : Int))) → R (.inl (some (.int z))) hp1) : xK (d + 5) 298 [.ref 66, .int a, .int b, .int c] hp R := by
  have hB : rdOk hp V T := rowOk_rd hS.1
  have b0 : rN hp 67 0 = (V : Int) := hB.1
  have hT0 : sOk V T := hB.2.1
  have h15 : V ≤ 15 := hT0.2.1
  have l35 : (trL T 225).length ≤ 35 := trL_35 hT0 225
  refine xin (M := am_m298) rfl rfl rfl ?_
  refine xald 1 ⟨u298, _, rfl⟩ rfl rfl ?_
  refine xild 2 ⟨u298, _, rfl⟩ rfl rfl ?_
  refine xild 3 ⟨u298, _, rfl⟩ rfl rfl ?_
  refine xild 4 ⟨u298, _, rfl⟩ rfl rfl ?_
  refine xcall 7 [.ref 66, .int _, .int _, .int _] [] hH ⟨u298, _, rfl⟩ rfl rfl rfl rfl rfl (k_259E hH hP (rowOk_rd hS.1) (fun z4 hp4 hH4 P4 F4 t4 o4 => ⟨_, rfl, ?_⟩))
  have S4 := rfS_W hS F4 (fun _ => rfl) rfl rfl (fun _ => rfl) (fun _ => rfl)
  refine xif_eq 10 ⟨u298, _, rfl⟩ rfl (fun c7 => ?_) (fun c7 => ?_)
  · refine xald 15 ⟨u298, _, rfl⟩ rfl rfl ?_
    refine xgetI 18 hH4 ⟨u298, _, rfl⟩ rfl rfl (fun z15 h15 => ?_)
    rcases o4 with ⟨g0, -, r1, -⟩ | ⟨-, q1⟩
    · exact xret ⟨u298, _, rfl⟩ rfl (hR _ hp4 hH4 P4 (bFr_sub F4 (by decide)) t4 (Or.inr ⟨g0, S4, h15.trans r1⟩))
    · omega
  · refine xcst 11 (0) ⟨u298, _, rfl⟩ rfl (by decide) (fun z10 h10 => ?_)
    refine xgoto ⟨u298, _, rfl⟩ ?_
    rcases o4 with ⟨-, q1, -⟩ | ⟨g1, -⟩
    · omega
    · exact xret ⟨u298, _, rfl⟩ rfl (hR _ hp4 hH4 P4 (bFr_sub F4 (by decide)) t4 (Or.inl ⟨g1, S4⟩))
theorem h366E {d : Nat} {hp : amH} {R : cQ} {x1 x2 x3 : Int32} {V n : Nat} {h : Nat → sR} {sv : Option sR} {T : sT} {ty : Nat → Int} (hI : lawI hp) (c : clS hp (V, T, ty) n h sv) (r : rfS hp (V, T, ty) n h sv)
    (hR : ∀ (z : Int32) hp1 mc ms, lawI hp1 → rfS hp1 (V, T, ty) n h sv → z.toInt = gCy V T x1.toInt x2.toInt x3.toInt → ((¬ gCy V T x1.toInt x2.toInt x3.toInt = 0 ∧ clS hp1 (V, T, ty) n h sv) ∨ (gCy V T x1.toInt x2.toInt x3.toInt = 0 ∧ clS hp1 (V, T, ty) n h sv ∧ rJ hp1 83 0 = ((cyL T x1.toInt.toNat x2.toInt.toNat (cyX V T x1.toInt x2.toInt x3.toInt) : Nat) : Int))) → mc ≤ 1 → ms ≤ 6 → R (.inl (some (.int z))) hp1 mc ms) : cK (d + 20) 366 [.ref 0, .int x1, .int x2, .int x3, .ref 83] hp R := by
  refine cin (M := am_m366) rfl rfl rfl ?_
  refine cald2 2 ⟨u366J, _, rfl⟩ rfl rfl ?_
  refine ccst 3 (0) ⟨u366J, _, rfl⟩ rfl (by decide) (fun z2 h2 => ?_)
  refine cald 4 ⟨u366J, _, rfl⟩ rfl rfl ?_
  refine cild 5 ⟨u366J, _, rfl⟩ rfl rfl ?_
  refine cild 6 ⟨u366J, _, rfl⟩ rfl rfl ?_
  refine cild 7 ⟨u366J, _, rfl⟩ rfl rfl ?_
  refine ccall (kd := 0) (t := 3) [.ref 0, .int _, .int _, .int _] [.int _, .ref 83] hI.1 ⟨u366J, _, rfl⟩ (Or.inl ⟨_, rfl, rfl, by decide, by decide⟩) rfl rfl rfl ⟨rfl, rfl, rfl⟩ rfl (recv0 hI.1 _) rfl (qKE (Φ := fun z hp1 => bHk 84 bTT hp1 ∧ cF hp hp1 ∧ gCy V T x1.toInt x2.toInt x3.toInt = 0 ∧ clS hp1 (V, T, ty) n h sv ∧ z.toInt = ((cyL T x1.toInt.toNat x2.toInt.toNat (cyX V T x1.toInt x2.toInt x3.toInt) : Nat) : Int)) (Ψ := fun E hp1 => lawI hp1 ∧ rfS hp1 (V, T, ty) n h sv ∧ clS hp1 (V, T, ty) n h sv ∧ ¬ gCy V T x1.toInt x2.toInt x3.toInt = 0 ∧ ((gCy V T x1.toInt x2.toInt x3.toInt = 1 ∧ E = 1) ∨ (gCy V T x1.toInt x2.toInt x3.toInt = 2 ∧ E = 0) ∨ (gCy V T x1.toInt x2.toInt x3.toInt = 3 ∧ E = 3))) (fun R g1 g2 => k_141E (d := d + 14) hI.1 c (fun E hp1 b1 b2 b3 e1 e2 => g2 E hp1 ⟨law_cl hI b1 b2, cF_rf b2 r, b3, e1, e2⟩) (fun z hp1 a1 a2 a3 a4 a5 => g1 z hp1 ⟨a1, a2, a3, a4, a5⟩)) (fun z hp1 φ => Or.inl ⟨_, rfl, ?_⟩) (fun E hp1 ψ => Or.inr ?_))
  · refine ci2lE 11 ⟨u366J, _, rfl⟩ rfl (fun w hw => ?_)
    refine clastE 12 φ.1 ⟨u366J, _, rfl⟩ rfl h2 (fun hp2 hH2 F2 J2 => ?_)
    refine cgoto ⟨u366J, _, rfl⟩ ?_
    refine ccst 28 (0) ⟨u366J, _, rfl⟩ rfl (by decide) (fun z9 h9 => ?_)
    exact cret ⟨u366J, _, rfl⟩ (Or.inl rfl) (hR _ _ _ _ (lawI_83 (law_cl hI φ.1 φ.2.1) hH2 F2) (rf_83 F2 (cF_rf φ.2.1 r)) (by rw [φ.2.2.1]; exact h9) (Or.inr ⟨φ.2.2.1, cl_83 F2 φ.2.2.2.1, by rw [J2, hw]; exact φ.2.2.2.2⟩) (by decide) (by decide))
  · obtain ⟨ψ0, ψr, ψc, ψ1, ψ2⟩ := ψ
    rcases ψ2 with ⟨ce, rfl⟩ | ⟨ce, rfl⟩ | ⟨ce, rfl⟩
    · refine ⟨1, 15, 5, 17, rfl, rfl, rfl, rfl, ?_⟩
      refine ccst 18 (1) ⟨u366J, _, rfl⟩ rfl (by decide) (fun z9 h9 => ?_)
      exact cret ⟨u366J, _, rfl⟩ (Or.inl rfl) (hR _ _ _ _ ψ0 ψr (by rw [ce]; exact h9) (Or.inl ⟨ψ1, ψc⟩) (by decide) (by decide))
    · refine ⟨0, 19, 5, 21, rfl, rfl, rfl, rfl, ?_⟩
      refine ccst 22 (2) ⟨u366J, _, rfl⟩ rfl (by decide) (fun z9 h9 => ?_)
      exact cret ⟨u366J, _, rfl⟩ (Or.inl rfl) (hR _ _ _ _ ψ0 ψr (by rw [ce]; exact h9) (Or.inl ⟨ψ1, ψc⟩) (by decide) (by decide))
    · refine ⟨3, 23, 5, 25, rfl, rfl, rfl, rfl, ?_⟩
      refine ccst 26 (3) ⟨u366J, _, rfl⟩ rfl (by decide) (fun z9 h9 => ?_)
      exact cret ⟨u366J, _, rfl⟩ (Or.inl rfl) (hR _ _ _ _ ψ0 ψr (by rw [ce]; exact h9) (Or.inl ⟨ψ1, ψc⟩) (by decide) (by decide))
