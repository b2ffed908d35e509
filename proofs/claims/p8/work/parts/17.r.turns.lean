/-! ===== ways by hand: turns, orbits ===== -/
theorem u235 : bUp 0 am_m235.1 = true := by decide +kernel
theorem u236 : bUp 0 am_m236.1 = true := by decide +kernel
theorem u322 : bUp 0 am_m322.1 = true := by decide +kernel
theorem u323 : bUp 0 am_m323.1 = true := by decide +kernel
theorem u324 : bUp 0 am_m324.1 = true := by decide +kernel
theorem u326 : bUp 0 am_m326.1 = true := by decide +kernel
theorem u327 : bUp 0 am_m327.1 = true := by decide +kernel
theorem l235 {d : Nat} {hp : amH} {R : xQ} {k : Int32} (hH : bHk 84 bTT hp) (hP : P0 hp) {m : Nat} {A : Nat → Nat × Nat × Nat} (hA : Arr hp m A) (hS : Sys (tT hp) (rN hp 67 0) m A) (k0 : 0 ≤ k.toInt) (k1 : k.toInt < rN hp 67 0) (hR : ∀ z : Int32, (z.toInt = 0 ∨ z.toInt = 1) → (k.toInt = 0 → z.toInt = 1) → R (.inl (some (.int z))) hp) :
    ∀ (j : Nat) (s t : Int32), t.toInt + (j : Int) = 36 → 0 ≤ t.toInt → (s.toInt = 0 ∨ s.toInt = 1) → (k.toInt = 0 → s.toInt = 1) → xV (d + 2) am_m235 4 [some (.ref 66), some (.int k), some (.int s), some (.int t)] [] hp R := by
  have q1 := hP.1.1
  have q2 := hP.1.2.1
  have am := hA.1
  have m35 := hS.1
  intro j
  induction j using Nat.strongRecOn with
  | ind j ih =>
    intro s t hj t0 hs01 hk0
    refine xild 5 ⟨u235, _, rfl⟩ rfl rfl ?_
    refine xald 6 ⟨u235, _, rfl⟩ rfl rfl ?_
    refine xgetI 9 hH ⟨u235, _, rfl⟩ rfl rfl (fun z6 h6 => ?_)
    refine xcmp_ge 12 ⟨u235, _, rfl⟩ rfl (fun c9 => ?_) (fun c9 => ?_)
    · refine xild 69 ⟨u235, _, rfl⟩ rfl rfl ?_
      exact xretB ⟨u235, _, rfl⟩ rfl (by omega) (hR _ (by omega) hk0)
    · refine xild 13 ⟨u235, _, rfl⟩ rfl rfl ?_
      refine xif_eq 16 ⟨u235, _, rfl⟩ rfl (fun c13 => ?_) (fun c13 => ?_)
      · refine xcst 61 (0) ⟨u235, _, rfl⟩ rfl (by decide) (fun z60 h60 => ?_)
        refine xist 62 ⟨u235, _, rfl⟩ rfl rfl ?_
        refine xinc 65 (1) ⟨u235, _, rfl⟩ rfl rfl rfl (by decide) (by omega) (by omega) (fun z62 h62 => ?_)
        refine xgoto ⟨u235, _, rfl⟩ ?_
        exact ih (j - 1) (by omega) _ _ (by omega) (by omega) (by omega) (fun z => by have := hk0 z; omega)
      · obtain ⟨a1, a2, a3, a4⟩ := hA.2 t.toInt.toNat (by omega)
        have hs := hS.2.1 t.toInt.toNat (by omega)
        have hx := Sys_x hS (k := t.toInt.toNat) (by omega)
        refine xald 17 ⟨u235, _, rfl⟩ rfl rfl ?_
        refine xald 18 ⟨u235, _, rfl⟩ rfl rfl ?_
        refine xald 19 ⟨u235, _, rfl⟩ rfl rfl ?_
        refine xgetR 22 72 hH ⟨u235, _, rfl⟩ rfl rfl ?_
        refine xild 23 ⟨u235, _, rfl⟩ rfl rfl ?_
        refine xiald 24 (t).toInt.toNat hH ⟨u235, _, rfl⟩ rfl (by decide) rfl (by omega) (by omega) (fun z23 h23 => ?_)
        refine xild 25 ⟨u235, _, rfl⟩ rfl rfl ?_
        refine xcall 28 [.ref 66, .int _, .int _] [.ref 66] hH ⟨u235, _, rfl⟩ rfl rfl rfl rfl rfl (k_turn2 hH hP (by omega) (by omega) (by omega) (by omega) (fun z25 h25 => ⟨_, rfl, ?_⟩))
        refine xald 29 ⟨u235, _, rfl⟩ rfl rfl ?_
        refine xald 30 ⟨u235, _, rfl⟩ rfl rfl ?_
        refine xgetR 33 73 hH ⟨u235, _, rfl⟩ rfl rfl ?_
        refine xild 34 ⟨u235, _, rfl⟩ rfl rfl ?_
        refine xiald 35 (t).toInt.toNat hH ⟨u235, _, rfl⟩ rfl (by decide) rfl (by omega) (by omega) (fun z34 h34 => ?_)
        refine xild 36 ⟨u235, _, rfl⟩ rfl rfl ?_
        refine xcall 39 [.ref 66, .int _, .int _] [.int _, .ref 66] hH ⟨u235, _, rfl⟩ rfl rfl rfl rfl rfl (k_turn2 hH hP (by omega) (by omega) (by omega) (by omega) (fun z36 h36 => ⟨_, rfl, ?_⟩))
        refine xcall 42 [.ref 66, .int _, .int _] [] hH ⟨u235, _, rfl⟩ rfl rfl rfl rfl rfl (k_third hH (by omega) (by omega) (by omega) (by omega) (fun z39 h39 => ⟨_, rfl, ?_⟩))
        refine xald 43 ⟨u235, _, rfl⟩ rfl rfl ?_
        refine xald 44 ⟨u235, _, rfl⟩ rfl rfl ?_
        refine xgetR 47 74 hH ⟨u235, _, rfl⟩ rfl rfl ?_
        refine xild 48 ⟨u235, _, rfl⟩ rfl rfl ?_
        refine xiald 49 (t).toInt.toNat hH ⟨u235, _, rfl⟩ rfl (by decide) rfl (by omega) (by omega) (fun z48 h48 => ?_)
        refine xild 50 ⟨u235, _, rfl⟩ rfl rfl ?_
        refine xcall 53 [.ref 66, .int _, .int _] [.int _] hH ⟨u235, _, rfl⟩ rfl rfl rfl rfl rfl (k_turn2 hH hP (by omega) (by omega) (by omega) (by omega) (fun z50 h50 => ⟨_, rfl, ?_⟩))
        refine xcmp_ne 56 ⟨u235, _, rfl⟩ rfl (fun c53 => ?_) (fun c53 => ?_)
        · refine xcst 61 (0) ⟨u235, _, rfl⟩ rfl (by decide) (fun z60 h60 => ?_)
          refine xist 62 ⟨u235, _, rfl⟩ rfl rfl ?_
          refine xinc 65 (1) ⟨u235, _, rfl⟩ rfl rfl rfl (by decide) (by omega) (by omega) (fun z62 h62 => ?_)
          refine xgoto ⟨u235, _, rfl⟩ ?_
          exact ih (j - 1) (by omega) _ _ (by omega) (by omega) (by omega) (fun z => by
          have e1 : z25.toInt.toNat = (A t.toInt.toNat).1 := by omega
          have e2 : z36.toInt.toNat = (A t.toInt.toNat).2.1 := by omega
          rw [e1, e2, hx] at h39
          omega)
        · refine xcst 57 (1) ⟨u235, _, rfl⟩ rfl (by decide) (fun z56 h56 => ?_)
          refine xgoto ⟨u235, _, rfl⟩ ?_
          refine xist 62 ⟨u235, _, rfl⟩ rfl rfl ?_
          refine xinc 65 (1) ⟨u235, _, rfl⟩ rfl rfl rfl (by decide) (by omega) (by omega) (fun z62 h62 => ?_)
          refine xgoto ⟨u235, _, rfl⟩ ?_
          exact ih (j - 1) (by omega) _ _ (by omega) (by omega) (by omega) (fun z => by omega)
theorem k_itb {d : Nat} {hp : amH} {R : xQ} {k : Int32} (hH : bHk 84 bTT hp) (hP : P0 hp) {m : Nat} {A : Nat → Nat × Nat × Nat} (hA : Arr hp m A) (hS : Sys (tT hp) (rN hp 67 0) m A) (k0 : 0 ≤ k.toInt) (k1 : k.toInt < rN hp 67 0) (hR : ∀ z : Int32, (z.toInt = 0 ∨ z.toInt = 1) → (k.toInt = 0 → z.toInt = 1) → R (.inl (some (.int z))) hp) : xK (d + 2) 235 [.ref 66, .int k] hp R := by
  refine xin (M := am_m235) rfl rfl rfl ?_
  refine xcst 1 (1) ⟨u235, _, rfl⟩ rfl (by decide) (fun z0 h0 => ?_)
  refine xist 2 ⟨u235, _, rfl⟩ rfl rfl ?_
  refine xcst 3 (0) ⟨u235, _, rfl⟩ rfl (by decide) (fun z2 h2 => ?_)
  refine xist 4 ⟨u235, _, rfl⟩ rfl rfl ?_
  exact l235 hH hP hA hS k0 k1 hR 36 _ _ (by omega) (by omega) (by omega) (fun _ => by omega)
theorem l236 {d : Nat} {hp : amH} {R : xQ} (hH : bHk 84 bTT hp) (hP : P0 hp) {m : Nat} {A : Nat → Nat × Nat × Nat} (hA : Arr hp m A) (hS : Sys (tT hp) (rN hp 67 0) m A) (hR : ∀ z : Int32, 1 ≤ z.toInt → z.toInt ≤ rN hp 67 0 → R (.inl (some (.int z))) hp) :
    ∀ (j : Nat) (k : Int32), k.toInt + (j : Int) = rN hp 67 0 → 1 ≤ k.toInt → k.toInt ≤ rN hp 67 0 → xV (d + 3) am_m236 6 [some (.ref 66), some (.int k)] [] hp R := by
  have q1 := hP.1.1
  have q2 := hP.1.2.1
  intro j
  induction j using Nat.strongRecOn with
  | ind j ih =>
    intro k hj k1 k2
    refine xald 7 ⟨u236, _, rfl⟩ rfl rfl ?_
    refine xild 8 ⟨u236, _, rfl⟩ rfl rfl ?_
    refine xald 9 ⟨u236, _, rfl⟩ rfl rfl ?_
    refine xcall 12 [.ref 66] [.int _, .ref 66] hH ⟨u236, _, rfl⟩ rfl rfl rfl rfl rfl (k_points hH (fun z9 h9 => ⟨_, rfl, ?_⟩))
    refine xrem 13 (k.toInt % rN hp 67 0) ⟨u236, _, rfl⟩ rfl (by omega) (by omega) (by rw [h9]) (fun z12 h12 => ?_)
    have hz : (k.toInt = rN hp 67 0 → z12.toInt = 0) ∧ 0 ≤ z12.toInt ∧ z12.toInt < rN hp 67 0 := by
      refine ⟨fun z => ?_, ?_, ?_⟩
      · rw [h12, z, Int.emod_self]
      · rw [h12]; exact Int.emod_nonneg _ (by omega)
      · rw [h12]; exact Int.emod_lt_of_pos _ (by omega)
    refine xcall 16 [.ref 66, .int _] [] hH ⟨u236, _, rfl⟩ rfl rfl rfl rfl rfl (k_itb hH hP hA hS (by omega) (by omega) (fun z13 h13 g13 => ⟨_, rfl, ?_⟩))
    refine xif_ne 19 ⟨u236, _, rfl⟩ rfl (fun c16 => ?_) (fun c16 => ?_)
    · refine xild 26 ⟨u236, _, rfl⟩ rfl rfl ?_
      exact xret ⟨u236, _, rfl⟩ rfl (hR _ (by omega) (by omega))
    · refine xinc 22 (1) ⟨u236, _, rfl⟩ rfl rfl rfl (by decide) (by omega) (by omega) (fun z19 h19 => ?_)
      refine xgoto ⟨u236, _, rfl⟩ ?_
      exact ih (j - 1) (by omega) _ (by omega) (by omega) (by omega)
theorem k_least {d : Nat} {hp : amH} {R : xQ} (hH : bHk 84 bTT hp) (hP : P0 hp) (hR : ∀ (z : Int32) (hp1 : amH) (m : Nat) (A : Nat → Nat × Nat × Nat), bHk 84 bTT hp1 → P0 hp1 → bFr bLT hp hp1 → Arr hp1 m A → Sys (tT hp1) (rN hp1 67 0) m A → 1 ≤ z.toInt → z.toInt ≤ rN hp1 67 0 → R (.inl (some (.int z))) hp1) : xK (d + 3) 236 [.ref 66] hp R := by
  refine xin (M := am_m236) rfl rfl rfl ?_
  refine xald 1 ⟨u236, _, rfl⟩ rfl rfl ?_
  refine xcall 4 [.ref 66] [] hH ⟨u236, _, rfl⟩ rfl rfl rfl rfl rfl (k_lst hH hP (fun hp1 m hH1 hP1 F1 hL1 => ⟨_, rfl, ?_⟩))
  obtain ⟨A, hA, hS⟩ := Lst_A hP1.1 hL1
  have q1 := hP1.1.1
  have e1 : rN hp1 67 0 = rN hp 67 0 := r_fr F1 rfl
  have t1 : ∀ u v, tT hp1 u v = tT hp u v := fun u v => r_fr F1 rfl
  refine xcst 5 (1) ⟨u236, _, rfl⟩ rfl (by decide) (fun z4 h4 => ?_)
  refine xist 6 ⟨u236, _, rfl⟩ rfl rfl ?_
  exact l236 hH1 hP1 hA hS (fun z z1 z2 => hR z hp1 m A hH1 hP1 F1 hA hS z1 z2) (rN hp1 67 0 - 1).toNat _ (by omega) (by omega) (by omega)
theorem l324 {d : Nat} {hp0 : amH} {R : xQ} {t k : Int32} {p : Int} (p15 : p ≤ 15) (k0 : 0 ≤ k.toInt) (k1 : k.toInt < p) (hR : ∀ (z : Int32) hp1, (z.toInt = 0 ∨ z.toInt = 1) → bHk 84 bTT hp1 ∧ P0 hp1 ∧ bFr [] hp0 hp1 → R (.inl (some (.int z))) hp1) :
    ∀ (j : Nat) (x y z n : Int32) (hp : amH), bHk 84 bTT hp → P0 hp → bFr [] hp0 hp → rN hp 67 0 = p → n.toInt + (j : Int) = 15 → 0 ≤ n.toInt → 0 ≤ x.toInt ∧ x.toInt < p → 0 ≤ y.toInt ∧ y.toInt < p → 0 ≤ z.toInt ∧ z.toInt < p → xV (d + 2) am_m324 26 [some (.ref 66), some (.int t), some (.int k), some (.int x), some (.int y), some (.int z), some (.int n)] [] hp R := by
  intro j
  induction j using Nat.strongRecOn with
  | ind j ih =>
    intro x y z n hp hH hP hF he hj n0 hx hy hz
    refine xild2 28 ⟨u324, _, rfl⟩ rfl rfl ?_
    refine xald 29 ⟨u324, _, rfl⟩ rfl rfl ?_
    refine xcall 32 [.ref 66] [.int _] hH ⟨u324, _, rfl⟩ rfl rfl rfl rfl rfl (k_points hH (fun z29 h29 => ⟨_, rfl, ?_⟩))
    refine xcmp_ge 35 ⟨u324, _, rfl⟩ rfl (fun c32 => ?_) (fun c32 => ?_)
    · refine xcst 90 (1) ⟨u324, _, rfl⟩ rfl (by decide) (fun z89 h89 => ?_)
      exact xretB ⟨u324, _, rfl⟩ rfl (by omega) (hR _ _ (by omega) ⟨hH, hP, hF⟩)
    · refine xald 36 ⟨u324, _, rfl⟩ rfl rfl ?_
      refine xild 37 ⟨u324, _, rfl⟩ rfl rfl ?_
      refine xild 38 ⟨u324, _, rfl⟩ rfl rfl ?_
      refine xcall 41 [.ref 66, .int _, .int _] [] hH ⟨u324, _, rfl⟩ rfl rfl rfl rfl rfl (k_turn2 hH hP (by omega) (by omega) (by omega) (by omega) (fun z38 h38 => ⟨_, rfl, ?_⟩))
      refine xist 42 ⟨u324, _, rfl⟩ rfl rfl ?_
      refine xald 43 ⟨u324, _, rfl⟩ rfl rfl ?_
      refine xild2 45 ⟨u324, _, rfl⟩ rfl rfl ?_
      refine xild 46 ⟨u324, _, rfl⟩ rfl rfl ?_
      refine xcall 49 [.ref 66, .int _, .int _] [] hH ⟨u324, _, rfl⟩ rfl rfl rfl rfl rfl (k_turn2 hH hP (by omega) (by omega) (by omega) (by omega) (fun z46 h46 => ⟨_, rfl, ?_⟩))
      refine xist2 51 ⟨u324, _, rfl⟩ rfl rfl ?_
      refine xald 52 ⟨u324, _, rfl⟩ rfl rfl ?_
      refine xild2 54 ⟨u324, _, rfl⟩ rfl rfl ?_
      refine xild 55 ⟨u324, _, rfl⟩ rfl rfl ?_
      refine xcall 58 [.ref 66, .int _, .int _] [] hH ⟨u324, _, rfl⟩ rfl rfl rfl rfl rfl (k_turn2 hH hP (by omega) (by omega) (by omega) (by omega) (fun z55 h55 => ⟨_, rfl, ?_⟩))
      refine xist2 60 ⟨u324, _, rfl⟩ rfl rfl ?_
      refine xald 61 ⟨u324, _, rfl⟩ rfl rfl ?_
      refine xcst 62 (1) ⟨u324, _, rfl⟩ rfl (by decide) (fun z61 h61 => ?_)
      refine xild 63 ⟨u324, _, rfl⟩ rfl rfl ?_
      refine xshl 64 ⟨u324, _, rfl⟩ rfl ?_
      refine xcst 65 (1) ⟨u324, _, rfl⟩ rfl (by decide) (fun z64 h64 => ?_)
      refine xild2 67 ⟨u324, _, rfl⟩ rfl rfl ?_
      refine xshl 68 ⟨u324, _, rfl⟩ rfl ?_
      refine xor_ 69 ⟨u324, _, rfl⟩ rfl ?_
      refine xcst 70 (1) ⟨u324, _, rfl⟩ rfl (by decide) (fun z69 h69 => ?_)
      refine xild2 72 ⟨u324, _, rfl⟩ rfl rfl ?_
      refine xshl 73 ⟨u324, _, rfl⟩ rfl ?_
      refine xor_ 74 ⟨u324, _, rfl⟩ rfl ?_
      refine xcall 77 [.ref 66, .int _] [] hH ⟨u324, _, rfl⟩ rfl rfl rfl rfl rfl (k_num hH hP (fun z74 h74 hp74 hH74 hP74 F74 => ⟨_, rfl, ?_⟩))
      have e74 : rN hp74 67 0 = rN hp 67 0 := r_fr F74 rfl
      have t74 : ∀ u v, tT hp74 u v = tT hp u v := fun u v => r_fr F74 rfl
      refine xild 78 ⟨u324, _, rfl⟩ rfl rfl ?_
      refine xcmp_ge 81 ⟨u324, _, rfl⟩ rfl (fun c78 => ?_) (fun c78 => ?_)
      · refine xinc 86 (1) ⟨u324, _, rfl⟩ rfl rfl rfl (by decide) (by omega) (by omega) (fun z83 h83 => ?_)
        refine xgoto ⟨u324, _, rfl⟩ ?_
        exact ih (j - 1) (by omega) _ _ _ _ _ hH74 hP74 (hF.trans F74) (by omega) (by omega) (by omega) (by omega) (by omega) (by omega)
      · refine xcst 82 (0) ⟨u324, _, rfl⟩ rfl (by decide) (fun z81 h81 => ?_)
        exact xretB ⟨u324, _, rfl⟩ rfl (by omega) (hR _ _ (by omega) ⟨hH74, hP74, hF.trans F74⟩)
theorem k_loo {d : Nat} {hp : amH} {R : xQ} {t k : Int32} (hH : bHk 84 bTT hp) (hP : P0 hp) {m : Nat} {A : Nat → Nat × Nat × Nat} (hA : Arr hp m A) (hS : Sys (tT hp) (rN hp 67 0) m A) (k0 : 0 ≤ k.toInt) (k1 : k.toInt < rN hp 67 0) (t0 : 0 ≤ t.toInt) (t1 : t.toInt < (m : Int)) (hR : ∀ (z : Int32) hp1, (z.toInt = 0 ∨ z.toInt = 1) → bHk 84 bTT hp1 ∧ P0 hp1 ∧ bFr [] hp hp1 → R (.inl (some (.int z))) hp1) : xK (d + 2) 324 [.ref 66, .int t, .int k] hp R := by
  have q1 := hP.1.1
  have q2 := hP.1.2.1
  have m35 := hS.1
  refine xin (M := am_m324) rfl rfl rfl ?_
  obtain ⟨a1, a2, a3, a4⟩ := hA.2 t.toInt.toNat (by omega)
  have hs := hS.2.1 t.toInt.toNat (by omega)
  refine xald 1 ⟨u324, _, rfl⟩ rfl rfl ?_
  refine xgetR 4 72 hH ⟨u324, _, rfl⟩ rfl rfl ?_
  refine xild 5 ⟨u324, _, rfl⟩ rfl rfl ?_
  refine xiald 6 (t).toInt.toNat hH ⟨u324, _, rfl⟩ rfl (by decide) rfl (by omega) (by omega) (fun z5 h5 => ?_)
  refine xist 7 ⟨u324, _, rfl⟩ rfl rfl ?_
  refine xald 8 ⟨u324, _, rfl⟩ rfl rfl ?_
  refine xgetR 11 73 hH ⟨u324, _, rfl⟩ rfl rfl ?_
  refine xild 12 ⟨u324, _, rfl⟩ rfl rfl ?_
  refine xiald 13 (t).toInt.toNat hH ⟨u324, _, rfl⟩ rfl (by decide) rfl (by omega) (by omega) (fun z12 h12 => ?_)
  refine xist2 15 ⟨u324, _, rfl⟩ rfl rfl ?_
  refine xald 16 ⟨u324, _, rfl⟩ rfl rfl ?_
  refine xgetR 19 74 hH ⟨u324, _, rfl⟩ rfl rfl ?_
  refine xild 20 ⟨u324, _, rfl⟩ rfl rfl ?_
  refine xiald 21 (t).toInt.toNat hH ⟨u324, _, rfl⟩ rfl (by decide) rfl (by omega) (by omega) (fun z20 h20 => ?_)
  refine xist2 23 ⟨u324, _, rfl⟩ rfl rfl ?_
  refine xcst 24 (0) ⟨u324, _, rfl⟩ rfl (by decide) (fun z23 h23 => ?_)
  refine xist2 26 ⟨u324, _, rfl⟩ rfl rfl ?_
  exact l324 (p := rN hp 67 0) q2 k0 k1 hR 15 _ _ _ _ hp hH hP (bFr.refl _ _) rfl (by omega) (by omega) (by omega) (by omega) (by omega)
theorem Sys_e {hp hp1 : amH} (hF : bFr [] hp hp1) {m : Nat} {A : Nat → Nat × Nat × Nat} (hS : Sys (tT hp) (rN hp 67 0) m A) : Sys (tT hp1) (rN hp1 67 0) m A := by
  have e : tT hp1 = tT hp := funext fun u => funext fun v => r_fr hF rfl
  have e0 : rN hp1 67 0 = rN hp 67 0 := r_fr hF rfl
  rw [e, e0]
  exact hS
