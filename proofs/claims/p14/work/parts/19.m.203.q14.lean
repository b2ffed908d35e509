/-! ===== reason on both sides ===== -/
theorem u125 : bUp 0 am_m125.1 = true := by decide +kernel
theorem k_125E {d V n : Nat} {h : Nat → sR} {sv : Option sR} {T : sT} {ty : Nat → Int} {hp : amH} {R : xQ} {a b c : Int32} (hH : bHk 84 bTT hp) (hS : clS hp (V, T, ty) n h sv)
    (hT : ∀ E hp1, bHk 84 bTT hp1 → cF hp hp1 → clS hp1 (V, T, ty) n h sv → ¬ gSet V a.toInt b.toInt c.toInt = 0 → ((gSet V a.toInt b.toInt c.toInt = 1 ∧ E = 1) ∨ (gSet V a.toInt b.toInt c.toInt = 2 ∧ E = 0)) → R (.inr E) hp1)
    (hR : ∀ (z : Int32) hp1, bHk 84 bTT hp1 → cF hp hp1 → gSet V a.toInt b.toInt c.toInt = 0 → clS hp1 (V, T, ty) n h sv → z.toInt = rsn T a.toInt.toNat b.toInt.toNat c.toInt.toNat → R (.inl (some (.int z))) hp1) : xK (d + 4) 125 [.ref 0, .int a, .int b, .int c] hp R := by
  have hB : bdOk hp 3 V T := hS.1
  have b0 : rN hp 3 0 = (V : Int) := hB.1
  have hL : lsN hp 3 T 225 := hS.2.1
  have b1 : rN hp 3 1 = (((trL T 225).length : Nat) : Int) := hL.1
  have hT0 : sOk V T := hB.2.1
  have h15 : V ≤ 15 := hT0.2.1
  have l35 : (trL T 225).length ≤ 35 := trL_35 hT0 225
  have nq0 : rN hp 49 0 = ((nQ T : Nat) : Int) := hS.2.2.1.1
  refine xin (M := am_m125) rfl rfl rfl ?_
  refine xald 1 ⟨u125, _, rfl⟩ rfl rfl ?_
  refine xild 2 ⟨u125, _, rfl⟩ rfl rfl ?_
  refine xild 3 ⟨u125, _, rfl⟩ rfl rfl ?_
  refine xild 4 ⟨u125, _, rfl⟩ rfl rfl ?_
  refine xcallT 7 (o := 0) [.int _, .int _, .int _] [] hH ⟨u125, _, rfl⟩ rfl rfl (by decide) rfl (by decide) rfl ⟨rfl, rfl, rfl, rfl⟩ rfl (k_rq3 hH b0 (fun g4 => Or.inl ⟨_, rfl, ?_⟩) (fun g4 => Or.inr ⟨_, rfl, rfl, hT _ hp hH cF.refl hS (by omega) (Or.inl ⟨g4, rfl⟩)⟩) (fun g4 => Or.inr ⟨_, rfl, rfl, hT _ hp hH cF.refl hS (by omega) (Or.inr ⟨g4, rfl⟩)⟩))
  have k4 := gSet_0.mp g4
  refine xild 8 ⟨u125, _, rfl⟩ rfl rfl ?_
  refine xild 9 ⟨u125, _, rfl⟩ rfl rfl ?_
  refine xild 10 ⟨u125, _, rfl⟩ rfl rfl ?_
  refine xcallS 13 [.int _, .int _, .int _] [] hH ⟨u125, _, rfl⟩ rfl rfl rfl rfl rfl (k_three (x := a.toInt.toNat) (y := b.toInt.toNat) (z := c.toInt.toNat) (by omega) (by omega) (by omega) (by omega) (by omega) (by omega) (fun z10 h10 => ⟨_, rfl, ?_⟩))
  refine xist2 15 ⟨u125, _, rfl⟩ rfl rfl ?_
  refine xald 16 ⟨u125, _, rfl⟩ rfl rfl ?_
  refine xgetD 19 (3) hH ⟨u125, _, rfl⟩ rfl (by decide) (by decide) rfl rfl (by decide) ?_
  refine xild2 21 ⟨u125, _, rfl⟩ rfl rfl ?_
  refine xcallC 24 (o := 3) [.int _] [] hH ⟨u125, _, rfl⟩ rfl rfl (by decide) rfl (by decide) rfl ⟨rfl, rfl, rfl, rfl⟩ rfl (k_hld (o := 3) (a := a.toInt.toNat) (b := b.toInt.toNat) (c := c.toInt.toNat) (Or.inl rfl) hH hB h10 (by omega) (by omega) (by omega) (by omega) (by omega) (by omega) (fun z21 h21 => ⟨_, rfl, ?_⟩))
  refine xif_eq 27 ⟨u125, _, rfl⟩ rfl (fun c24 => ?_) (fun c24 => ?_)
  · refine xald 30 ⟨u125, _, rfl⟩ rfl rfl ?_
    refine xgetD 33 (3) hH ⟨u125, _, rfl⟩ rfl (by decide) (by decide) rfl rfl (by decide) ?_
    refine xild2 35 ⟨u125, _, rfl⟩ rfl rfl ?_
    refine xcst 36 (2) ⟨u125, _, rfl⟩ rfl (by decide) (fun z35 h35 => ?_)
    refine xcallC 39 (o := 3) [.int _, .int _] [] hH ⟨u125, _, rfl⟩ rfl rfl (by decide) rfl (by decide) rfl ⟨rfl, rfl, rfl, rfl⟩ rfl (k_26E (m := m3 a.toInt.toNat b.toInt.toNat c.toInt.toNat) hT0 hH hL h10 (m3_lt (by omega) (by omega) (by omega)) (fun z36 h36 => ⟨_, rfl, ?_⟩))
    rw [h35, mt_3 hT0 (by omega) (by omega) (by omega) (by omega) (by omega) (by omega)] at h36
    unfold iwV at h36
    have ec : c.toInt = ((c.toInt.toNat : Nat) : Int) := by omega
    rw [if_neg (by rcases h21 with ⟨q, -⟩ | ⟨-, q⟩; omega; exact q)] at h36
    refine xist2 41 ⟨u125, _, rfl⟩ rfl rfl ?_
    have v1 := cvT_01 T a.toInt.toNat b.toInt.toNat
    have v2 := cvT_01 T b.toInt.toNat c.toInt.toNat
    have v3 := cvT_01 T a.toInt.toNat c.toInt.toNat
    refine xild2 43 ⟨u125, _, rfl⟩ rfl rfl ?_
    refine xif_ne 46 ⟨u125, _, rfl⟩ rfl (fun c43 => ?_) (fun c43 => ?_)
    · refine xcst 51 (1) ⟨u125, _, rfl⟩ rfl (by decide) (fun z50 h50 => ?_)
      refine xild2 53 ⟨u125, _, rfl⟩ rfl rfl ?_
      refine xadd 54 _ ⟨u125, _, rfl⟩ rfl rfl (by omega) (by omega) (fun z53 h53 => ?_)
      exact xret ⟨u125, _, rfl⟩ rfl (hR _ _ hH cF.refl g4 hS (by unfold rsn; rw [if_neg (by rcases h21 with ⟨q, -⟩ | ⟨-, q⟩; omega; exact q), if_neg (by omega)]; omega))
    · refine xcst 47 (0) ⟨u125, _, rfl⟩ rfl (by decide) (fun z46 h46 => ?_)
      refine xgoto ⟨u125, _, rfl⟩ ?_
      exact xret ⟨u125, _, rfl⟩ rfl (hR _ _ hH cF.refl g4 hS (by unfold rsn; rw [if_neg (by rcases h21 with ⟨q, -⟩ | ⟨-, q⟩; omega; exact q), if_pos (by omega)]; exact h46))
  · refine xcst 28 (1) ⟨u125, _, rfl⟩ rfl (by decide) (fun z27 h27 => ?_)
    exact xret ⟨u125, _, rfl⟩ rfl (hR _ _ hH cF.refl g4 hS (by unfold rsn; rw [if_pos (by rcases h21 with ⟨-, q⟩ | ⟨q, -⟩; exact q; omega)]; exact h27))
theorem u270 : bUp 0 am_m270.1 = true := by decide +kernel
theorem k_270E {d V n : Nat} {h : Nat → sR} {sv : Option sR} {T : sT} {ty : Nat → Int} {hp : amH} {R : xQ} {a b c : Int32} (hH : bHk 84 bTT hp) (hP : P0 hp) (hS : rfS hp (V, T, ty) n h sv)
    (hR : ∀ (z : Int32) hp1, bHk 84 bTT hp1 → P0 hp1 → bFr wM hp hp1 → rN hp1 66 7 = gSet V a.toInt b.toInt c.toInt → ((¬ gSet V a.toInt b.toInt c.toInt = 0 ∧ rfS hp1 (V, T, ty) n h sv) ∨ (gSet V a.toInt b.toInt c.toInt = 0 ∧ rfS hp1 (V, T, ty) n h sv ∧ z.toInt = rsn T a.toInt.toNat b.toInt.toNat c.toInt.toNat)) → R (.inl (some (.int z))) hp1) : xK (d + 4) 270 [.ref 66, .int a, .int b, .int c] hp R := by
  have hB : rdOk hp V T := rowOk_rd hS.1
  have b0 : rN hp 67 0 = (V : Int) := hB.1
  have hT0 : sOk V T := hB.2.1
  have h15 : V ≤ 15 := hT0.2.1
  have l35 : (trL T 225).length ≤ 35 := trL_35 hT0 225
  refine xin (M := am_m270) rfl rfl rfl ?_
  refine xald 1 ⟨u270, _, rfl⟩ rfl rfl ?_
  refine xild 2 ⟨u270, _, rfl⟩ rfl rfl ?_
  refine xild 3 ⟨u270, _, rfl⟩ rfl rfl ?_
  refine xild 4 ⟨u270, _, rfl⟩ rfl rfl ?_
  refine xcall 7 [.ref 66, .int _, .int _, .int _] [] hH ⟨u270, _, rfl⟩ rfl rfl rfl rfl rfl (k_gp3 hH b0 h15 (fun z4 hp4 hH4 F4 t4 o4 => ⟨_, rfl, ?_⟩))
  have S4 := rfS_W hS F4 (fun _ => rfl) rfl rfl (fun _ => rfl) (fun _ => rfl)
  have P4 : P0 hp4 := P0_W (W := [(66, 7)]) (by decide) F4 hP
  refine xif_eq 10 ⟨u270, _, rfl⟩ rfl (fun c7 => ?_) (fun c7 => ?_)
  · have g4 : gSet V a.toInt b.toInt c.toInt = 0 := by omega
    have k4 := gSet_0.mp g4
    refine xald 15 ⟨u270, _, rfl⟩ rfl rfl ?_
    refine xild 16 ⟨u270, _, rfl⟩ rfl rfl ?_
    refine xild 17 ⟨u270, _, rfl⟩ rfl rfl ?_
    refine xild 18 ⟨u270, _, rfl⟩ rfl rfl ?_
    refine xcall 21 [.ref 66, .int _, .int _, .int _] [] hH4 ⟨u270, _, rfl⟩ rfl rfl rfl rfl rfl (k_rrea hH4 (V := V) (T := T) (show rdOk hp4 V T from rowOk_rd S4.1) (x := a.toInt.toNat) (y := b.toInt.toNat) (z := c.toInt.toNat) (by omega) (by omega) (by omega) (by omega) (by omega) (by omega) (fun z18 h18 => ⟨_, rfl, ?_⟩))
    exact xret ⟨u270, _, rfl⟩ rfl (hR _ hp4 hH4 P4 (bFr_sub F4 (by decide)) t4 (Or.inr ⟨g4, S4, h18⟩))
  · refine xcst 11 (0) ⟨u270, _, rfl⟩ rfl (by decide) (fun z10 h10 => ?_)
    refine xgoto ⟨u270, _, rfl⟩ ?_
    exact xret ⟨u270, _, rfl⟩ rfl (hR _ hp4 hH4 P4 (bFr_sub F4 (by decide)) t4 (Or.inl ⟨by omega, S4⟩))
theorem h354E {d : Nat} {hp : amH} {R : cQ} {x1 x2 x3 : Int32} {V n : Nat} {h : Nat → sR} {sv : Option sR} {T : sT} {ty : Nat → Int} (hI : lawI hp) (c : clS hp (V, T, ty) n h sv) (r : rfS hp (V, T, ty) n h sv)
    (hR : ∀ (z : Int32) hp1 mc ms, lawI hp1 → rfS hp1 (V, T, ty) n h sv → z.toInt = gSet V x1.toInt x2.toInt x3.toInt → ((¬ gSet V x1.toInt x2.toInt x3.toInt = 0 ∧ clS hp1 (V, T, ty) n h sv) ∨ (gSet V x1.toInt x2.toInt x3.toInt = 0 ∧ clS hp1 (V, T, ty) n h sv ∧ rJ hp1 83 0 = rsn T x1.toInt.toNat x2.toInt.toNat x3.toInt.toNat)) → mc ≤ 1 → ms ≤ 6 → R (.inl (some (.int z))) hp1 mc ms) : cK (d + 20) 354 [.ref 0, .int x1, .int x2, .int x3, .ref 83] hp R := by
  refine cin (M := am_m354) rfl rfl rfl ?_
  refine cald2 2 ⟨u354J, _, rfl⟩ rfl rfl ?_
  refine ccst 3 (0) ⟨u354J, _, rfl⟩ rfl (by decide) (fun z2 h2 => ?_)
  refine cald 4 ⟨u354J, _, rfl⟩ rfl rfl ?_
  refine cild 5 ⟨u354J, _, rfl⟩ rfl rfl ?_
  refine cild 6 ⟨u354J, _, rfl⟩ rfl rfl ?_
  refine cild 7 ⟨u354J, _, rfl⟩ rfl rfl ?_
  refine ccall (kd := 0) (t := 2) [.ref 0, .int _, .int _, .int _] [.int _, .ref 83] hI.1 ⟨u354J, _, rfl⟩ (Or.inl ⟨_, rfl, rfl, by decide, by decide⟩) rfl rfl rfl ⟨rfl, rfl, rfl⟩ rfl (recv0 hI.1 _) rfl (qKE (Φ := fun z hp1 => bHk 84 bTT hp1 ∧ cF hp hp1 ∧ gSet V x1.toInt x2.toInt x3.toInt = 0 ∧ clS hp1 (V, T, ty) n h sv ∧ z.toInt = rsn T x1.toInt.toNat x2.toInt.toNat x3.toInt.toNat) (Ψ := fun E hp1 => lawI hp1 ∧ rfS hp1 (V, T, ty) n h sv ∧ clS hp1 (V, T, ty) n h sv ∧ ¬ gSet V x1.toInt x2.toInt x3.toInt = 0 ∧ ((gSet V x1.toInt x2.toInt x3.toInt = 1 ∧ E = 1) ∨ (gSet V x1.toInt x2.toInt x3.toInt = 2 ∧ E = 0))) (fun R g1 g2 => k_125E (d := d + 15) hI.1 c (fun E hp1 b1 b2 b3 e1 e2 => g2 E hp1 ⟨law_cl hI b1 b2, cF_rf b2 r, b3, e1, e2⟩) (fun z hp1 a1 a2 a3 a4 a5 => g1 z hp1 ⟨a1, a2, a3, a4, a5⟩)) (fun z hp1 φ => Or.inl ⟨_, rfl, ?_⟩) (fun E hp1 ψ => Or.inr ?_))
  · refine ci2lE 11 ⟨u354J, _, rfl⟩ rfl (fun w hw => ?_)
    refine clastE 12 φ.1 ⟨u354J, _, rfl⟩ rfl h2 (fun hp2 hH2 F2 J2 => ?_)
    refine cgoto ⟨u354J, _, rfl⟩ ?_
    refine ccst 24 (0) ⟨u354J, _, rfl⟩ rfl (by decide) (fun z9 h9 => ?_)
    exact cret ⟨u354J, _, rfl⟩ (Or.inl rfl) (hR _ _ _ _ (lawI_83 (law_cl hI φ.1 φ.2.1) hH2 F2) (rf_83 F2 (cF_rf φ.2.1 r)) (by rw [φ.2.2.1]; exact h9) (Or.inr ⟨φ.2.2.1, cl_83 F2 φ.2.2.2.1, by rw [J2, hw]; exact φ.2.2.2.2⟩) (by decide) (by decide))
  · obtain ⟨ψ0, ψr, ψc, ψ1, ψ2⟩ := ψ
    rcases ψ2 with ⟨ce, rfl⟩ | ⟨ce, rfl⟩
    · refine ⟨1, 15, 5, 17, rfl, rfl, rfl, rfl, ?_⟩
      refine ccst 18 (1) ⟨u354J, _, rfl⟩ rfl (by decide) (fun z9 h9 => ?_)
      exact cret ⟨u354J, _, rfl⟩ (Or.inl rfl) (hR _ _ _ _ ψ0 ψr (by rw [ce]; exact h9) (Or.inl ⟨ψ1, ψc⟩) (by decide) (by decide))
    · refine ⟨0, 19, 5, 21, rfl, rfl, rfl, rfl, ?_⟩
      refine ccst 22 (2) ⟨u354J, _, rfl⟩ rfl (by decide) (fun z9 h9 => ?_)
      exact cret ⟨u354J, _, rfl⟩ (Or.inl rfl) (hR _ _ _ _ ψ0 ψr (by rw [ce]; exact h9) (Or.inl ⟨ψ1, ψc⟩) (by decide) (by decide))
