/-! ===== ways by hand: descend, would have by a cycle ===== -/
theorem p301_s : bSem amGG P0 84 bTT 301 (sPub 3 9) := by
  refine pub3 (N := am_m301) rfl (fun x y z hp hH hP => ?_)
  refine xin (M := am_m301) rfl rfl rfl ?_
  have G := bFr.refl wM hp
  have q1 := hP.1.1
  have q2 := hP.1.2.1
  refine xald 1 ⟨u301, _, rfl⟩ rfl rfl ?_
  refine xild 2 ⟨u301, _, rfl⟩ rfl rfl ?_
  refine xild 3 ⟨u301, _, rfl⟩ rfl rfl ?_
  refine xild 4 ⟨u301, _, rfl⟩ rfl rfl ?_
  refine xcall 7 [.ref 66, .int _, .int _, .int _] [] hH ⟨u301, _, rfl⟩ rfl rfl rfl rfl rfl (k_nocy hH hP (fun z4 hp4 hH4 hP4 F4 h4 => ⟨_, rfl, ?_⟩))
  have G4 := G.trans (bFr_sub (W1 := wM) F4 (by decide))
  have e4 : rN hp4 67 0 = rN hp 67 0 := r_fr F4 rfl
  have t4 : ∀ u v, tT hp4 u v = tT hp u v := fun u v => r_fr F4 rfl
  refine xif_eq 10 ⟨u301, _, rfl⟩ rfl (fun c7 => ?_) (fun c7 => ?_)
  · obtain ⟨A0, B0, C0⟩ : 0 ≤ x.toInt ∧ 0 ≤ y.toInt ∧ CyOk hp4 x.toInt.toNat y.toInt.toNat := by rcases h4 with g | g <;> first | exact g.2 | (exfalso; omega)
    refine xald 13 ⟨u301, _, rfl⟩ rfl rfl ?_
    refine xcall 16 [.ref 66] [] hH4 ⟨u301, _, rfl⟩ rfl rfl rfl rfl rfl (k_begin hH4 hP4 (fun hp13 hH13 hP13 F13 E13 => ⟨_, rfl, ?_⟩))
    have G13 := G4.trans (bFr_sub (W1 := wM) F13 (by decide))
    have e13 : rN hp13 67 0 = rN hp4 67 0 := r_fr F13 rfl
    have t13 : ∀ u v, tT hp13 u v = tT hp4 u v := fun u v => r_fr F13 rfl
    refine xald 17 ⟨u301, _, rfl⟩ rfl rfl ?_
    refine xild 18 ⟨u301, _, rfl⟩ rfl rfl ?_
    refine xild 19 ⟨u301, _, rfl⟩ rfl rfl ?_
    refine xcall 22 [.ref 66, .int _, .int _] [] hH13 ⟨u301, _, rfl⟩ rfl rfl rfl rfl rfl (k_swc hH13 hP13 A0 B0 (CyOk_W (W := [(69, 999)]) (by decide) F13 C0) (fun hp19 hH19 hP19 F19 => ⟨_, rfl, ?_⟩))
    have G19 := G13.trans (bFr_sub (W1 := wM) F19 (by decide))
    refine xald 23 ⟨u301, _, rfl⟩ rfl rfl ?_
    refine xcall 26 [.ref 66] [] hH19 ⟨u301, _, rfl⟩ rfl rfl rfl rfl rfl (k_qn hH19 hP19 (fun z23 hp23 hH23 hP23 F23 => ⟨_, rfl, ?_⟩))
    have G23 := G19.trans (bFr_sub (W1 := wM) F23 (by decide))
    have e23 : rN hp23 67 0 = rN hp19 67 0 := r_fr F23 rfl
    have t23 : ∀ u v, tT hp23 u v = tT hp19 u v := fun u v => r_fr F23 rfl
    refine xist2 28 ⟨u301, _, rfl⟩ rfl rfl ?_
    refine xald 29 ⟨u301, _, rfl⟩ rfl rfl ?_
    refine xcall 32 [.ref 66] [] hH23 ⟨u301, _, rfl⟩ rfl rfl rfl rfl rfl (k_ends hH23 hP23 (Vf_eq (r := rN hp4 67) (fun i hi => ((r_fr F23 rfl).trans (r_fr F19 rfl)).trans (E13 i hi)) hP4.1) (fun hp29 hH29 hP29 F29 E29 => ⟨_, rfl, ?_⟩))
    have G29 := G23.trans (bFr_sub (W1 := wM) F29 (by decide))
    refine xild2 34 ⟨u301, _, rfl⟩ rfl rfl ?_
    exact xret ⟨u301, _, rfl⟩ rfl ⟨⟨_, rfl⟩, hH29, hP29, G29⟩
  · refine xcst 11 (0) ⟨u301, _, rfl⟩ rfl (by decide) (fun z10 h10 => ?_)
    exact xret ⟨u301, _, rfl⟩ rfl ⟨⟨_, rfl⟩, hH4, hP4, G4⟩
theorem l295 {hp0 : amH} {x : Int32} (x1 : x.toInt ≤ 20) :
    ∀ (jj : Nat) (k : Int32) (v : Option Value) hp, bHk 84 bTT hp → P0 hp → bFr wM hp0 hp → k.toInt + (jj : Int) = 20 → 0 ≤ k.toInt → xV 9 am_m295 36 [some (.ref 66), some (.int x), some (.int k), v] [] hp (rPub hp0) := by
  intro jj
  induction jj using Nat.strongRecOn with
  | ind jj ih =>
    intro k v hp hH hP G hjj k0
    refine xild 37 ⟨u295, _, rfl⟩ rfl rfl ?_
    refine xild 38 ⟨u295, _, rfl⟩ rfl rfl ?_
    refine xcmp_ge 41 ⟨u295, _, rfl⟩ rfl (fun c38 => ?_) (fun c38 => ?_)
    · refine xild 78 ⟨u295, _, rfl⟩ rfl rfl ?_
      exact xret ⟨u295, _, rfl⟩ rfl ⟨⟨_, rfl⟩, hH, hP, G⟩
    · refine xald 42 ⟨u295, _, rfl⟩ rfl rfl ?_
      refine xcst 43 (0) ⟨u295, _, rfl⟩ rfl (by decide) (fun z42 h42 => ?_)
      refine xcall 46 [.ref 66, .int _] [] hH ⟨u295, _, rfl⟩ rfl rfl rfl rfl rfl (k_bq hH hP (fun z43 hp43 m A n hH43 hP43 F43 hX43 h43 => ⟨_, rfl, ?_⟩))
      have G43 := G.trans (bFr_sub (W1 := wM) F43 (by decide))
      refine xist 47 ⟨u295, _, rfl⟩ rfl rfl ?_
      have hn43 := hX43.2.2.2.2
      refine xild 48 ⟨u295, _, rfl⟩ rfl rfl ?_
      refine xcst 49 (-1) ⟨u295, _, rfl⟩ rfl (by decide) (fun z48 h48 => ?_)
      refine xcmp_eq 52 ⟨u295, _, rfl⟩ rfl (fun c49 => ?_) (fun c49 => ?_)
      · refine xild 65 ⟨u295, _, rfl⟩ rfl rfl ?_
        exact xret ⟨u295, _, rfl⟩ rfl ⟨⟨_, rfl⟩, hH43, hP43, G43⟩
      · refine xald 53 ⟨u295, _, rfl⟩ rfl rfl ?_
        refine xild 54 ⟨u295, _, rfl⟩ rfl rfl ?_
        refine xcall 57 [.ref 66, .int _] [] hH43 ⟨u295, _, rfl⟩ rfl rfl rfl rfl rfl (k_qb hH43 hP43 hX43 (by omega) (by omega) (fun z54 hp54 hH54 hP54 F54 hX54 => ⟨_, rfl, ?_⟩))
        have G54 := G43.trans (bFr_sub (W1 := wM) F54 (by decide))
        refine xald 58 ⟨u295, _, rfl⟩ rfl rfl ?_
        refine xgetI 61 hH54 ⟨u295, _, rfl⟩ rfl rfl (fun z58 h58 => ?_)
        refine xcmp_lt 64 ⟨u295, _, rfl⟩ rfl (fun c61 => ?_) (fun c61 => ?_)
        · refine xald 67 ⟨u295, _, rfl⟩ rfl rfl ?_
          refine xild 68 ⟨u295, _, rfl⟩ rfl rfl ?_
          refine xcall 71 [.ref 66, .int _] [] hH54 ⟨u295, _, rfl⟩ rfl rfl rfl rfl rfl (k_swq hH54 hP54 hX54 (by omega) (by omega) (fun hp68 hH68 hP68 F68 => ⟨_, rfl, ?_⟩))
          have G68 := G54.trans (bFr_sub (W1 := wM) F68 (by decide))
          refine xinc 74 (1) ⟨u295, _, rfl⟩ rfl rfl rfl (by decide) (by omega) (by omega) (fun z71 h71 => ?_)
          refine xgoto ⟨u295, _, rfl⟩ ?_
          exact ih (jj - 1) (by omega) _ _ hp68 hH68 hP68 G68 (by omega) (by omega)
        · refine xild 65 ⟨u295, _, rfl⟩ rfl rfl ?_
          exact xret ⟨u295, _, rfl⟩ rfl ⟨⟨_, rfl⟩, hH54, hP54, G54⟩
theorem p295_s : bSem amGG P0 84 bTT 295 (sPub 1 9) := by
  refine pub1 (N := am_m295) rfl (fun x hp hH hP => ?_)
  refine xin (M := am_m295) rfl rfl rfl ?_
  have G := bFr.refl wM hp
  have q1 := hP.1.1
  have q2 := hP.1.2.1
  refine xald 1 ⟨u295, _, rfl⟩ rfl rfl ?_
  refine xcst 2 (0) ⟨u295, _, rfl⟩ rfl (by decide) (fun z1 h1 => ?_)
  refine xputI 5 hH ⟨u295, _, rfl⟩ rfl rfl ⟨rfl, rfl⟩ (by omega) (by omega) (fun hp2 hH2 U2 => ?_)
  have G2 := G.trans (rU_fr U2 (W := wM) (by decide))
  have hP2 := P0_W (W := [(66, 7)]) (by decide) (rU_fr U2 rfl) hP
  have e2 : rN hp2 67 0 = rN hp 67 0 := rU_ne U2 (by omega)
  refine xald 6 ⟨u295, _, rfl⟩ rfl rfl ?_
  refine xild 7 ⟨u295, _, rfl⟩ rfl rfl ?_
  refine xcst 8 (1) ⟨u295, _, rfl⟩ rfl (by decide) (fun z7 h7 => ?_)
  refine xbip 10 (20) ⟨u295, _, rfl⟩ rfl (by decide) (fun z8 h8 => ?_)
  refine xcallS 13 [.int _, .int _, .int _] [.ref 66] hH2 ⟨u295, _, rfl⟩ rfl rfl rfl rfl rfl (k_inr (fun z10 h10 => ⟨_, rfl, ?_⟩))
  refine xif_ne 16 ⟨u295, _, rfl⟩ rfl (fun c13 => ?_) (fun c13 => ?_)
  · refine xcst 21 (0) ⟨u295, _, rfl⟩ rfl (by decide) (fun z20 h20 => ?_)
    refine xcst 22 (1) ⟨u295, _, rfl⟩ rfl (by decide) (fun z21 h21 => ?_)
    refine xcall 25 [.ref 66, .int _, .int _] [] hH2 ⟨u295, _, rfl⟩ rfl rfl rfl rfl rfl (k_fails2 hH2 hP2 (by omega) (fun hp22 hH22 hP22 F22 => ⟨_, rfl, ?_⟩))
    have G22 := G2.trans (bFr_sub (W1 := wM) F22 (by decide))
    have e22 : rN hp22 67 0 = rN hp2 67 0 := r_fr F22 rfl
    have t22 : ∀ u v, tT hp22 u v = tT hp2 u v := fun u v => r_fr F22 rfl
    refine xif_eq 28 ⟨u295, _, rfl⟩ rfl (fun c25 => ?_) (fun c25 => ?_)
    · refine xald 31 ⟨u295, _, rfl⟩ rfl rfl ?_
      refine xcall 34 [.ref 66] [] hH22 ⟨u295, _, rfl⟩ rfl rfl rfl rfl rfl (k_rem hH22 hP22 (fun hp31 hH31 hP31 F31 => ⟨_, rfl, ?_⟩))
      have G31 := G22.trans (bFr_sub (W1 := wM) F31 (by decide))
      have e31 : rN hp31 67 0 = rN hp22 67 0 := r_fr F31 rfl
      have t31 : ∀ u v, tT hp31 u v = tT hp22 u v := fun u v => r_fr F31 rfl
      refine xcst 35 (0) ⟨u295, _, rfl⟩ rfl (by decide) (fun z34 h34 => ?_)
      refine xist 36 ⟨u295, _, rfl⟩ rfl rfl ?_
      refine xpad 1 ?_
      exact l295 (by omega) 20 _ _ _ hH31 hP31 G31 (by omega) (by omega)
    · refine xcst 29 (0) ⟨u295, _, rfl⟩ rfl (by decide) (fun z28 h28 => ?_)
      exact xret ⟨u295, _, rfl⟩ rfl ⟨⟨_, rfl⟩, hH22, hP22, G22⟩
  · refine xcst 17 (1) ⟨u295, _, rfl⟩ rfl (by decide) (fun z13 h13 => ?_)
    refine xgoto ⟨u295, _, rfl⟩ ?_
    refine xcst 22 (1) ⟨u295, _, rfl⟩ rfl (by decide) (fun z18 h18 => ?_)
    refine xcall 25 [.ref 66, .int _, .int _] [] hH2 ⟨u295, _, rfl⟩ rfl rfl rfl rfl rfl (k_fails2 hH2 hP2 (by omega) (fun hp19 hH19 hP19 F19 => ⟨_, rfl, ?_⟩))
    have G19 := G2.trans (bFr_sub (W1 := wM) F19 (by decide))
    refine xif_eq 28 ⟨u295, _, rfl⟩ rfl (fun c22 => absurd c22 (by omega)) (fun c22 => ?_)
    refine xcst 29 (0) ⟨u295, _, rfl⟩ rfl (by decide) (fun z25 h25 => ?_)
    exact xret ⟨u295, _, rfl⟩ rfl ⟨⟨_, rfl⟩, hH19, hP19, G19⟩
