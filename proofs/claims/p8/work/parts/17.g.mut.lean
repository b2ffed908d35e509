/-! ===== ways by hand: calls that change the system (1) ===== -/
theorem lAt_pad : ∀ (L : List (Option Value)) (m k : Nat) (v : Value), lAt (L ++ List.replicate m none) k = some (some v) → lAt L k = some (some v)
  | [], m, k, v, e => by
    rcases lAt_rep m k (none : Option Value) with h | h <;> rw [List.nil_append, h] at e <;> cases e
  | c :: r, m, 0, v, e => e
  | c :: r, m, k + 1, v, e => lAt_pad r m k v e
theorem xpad (m : Nat) {M : amM} {pc d : Nat} {L : List (Option Value)} {st : List Value} {hp : amH} {Q : xQ} (hw : xV d M pc (L ++ List.replicate m none) st hp Q) : xV d M pc L st hp Q := xdrop (lAt_pad L m) hw
theorem u276 : bUp 0 am_m276.1 = true := by decide +kernel
theorem p276_s : bSem amGG P0 84 bTT 276 (sPub 3 9) := by
  refine pub3 (N := am_m276) rfl (fun x y z hp hH hP => ?_)
  refine xin (M := am_m276) rfl rfl rfl ?_
  have G := bFr.refl wM hp
  have q1 := hP.1.1
  have q2 := hP.1.2.1
  have j33 : ∀ hp1, bHk 84 bTT hp1 → P0 hp1 → bFr wM hp hp1 → xV 9 am_m276 33 [some (.ref 66), some (.int x), some (.int y), some (.int z)] [] hp1 (rPub hp) := by
    intro hp1 hH1 hP1 G1
    refine xcst 34 (0) ⟨u276, _, rfl⟩ rfl (by decide) (fun z33 h33 => ?_)
    exact xret ⟨u276, _, rfl⟩ rfl ⟨⟨_, rfl⟩, hH1, hP1, G1⟩
  refine xald 1 ⟨u276, _, rfl⟩ rfl rfl ?_
  refine xild 2 ⟨u276, _, rfl⟩ rfl rfl ?_
  refine xild 3 ⟨u276, _, rfl⟩ rfl rfl ?_
  refine xild 4 ⟨u276, _, rfl⟩ rfl rfl ?_
  refine xcall 7 [.ref 66, .int _, .int _, .int _] [] hH ⟨u276, _, rfl⟩ rfl rfl rfl rfl rfl (k_noset hH hP (fun z4 hp4 hH4 hP4 F4 h4 => ⟨_, rfl, ?_⟩))
  have G4 := G.trans (bFr_sub (W1 := wM) F4 (by decide))
  have e4 : rN hp4 67 0 = rN hp 67 0 := r_fr F4 rfl
  have t4 : ∀ u v, tT hp4 u v = tT hp u v := fun u v => r_fr F4 rfl
  refine xif_ne 10 ⟨u276, _, rfl⟩ rfl (fun c7 => ?_) (fun c7 => ?_)
  · exact j33 _ hH4 hP4 G4
  · refine xald 11 ⟨u276, _, rfl⟩ rfl rfl ?_
    refine xald 12 ⟨u276, _, rfl⟩ rfl rfl ?_
    refine xild 13 ⟨u276, _, rfl⟩ rfl rfl ?_
    refine xild 14 ⟨u276, _, rfl⟩ rfl rfl ?_
    refine xcall 17 [.ref 66, .int _, .int _] [.ref 66] hH4 ⟨u276, _, rfl⟩ rfl rfl rfl rfl rfl (k_third hH4 (by omega) (by omega) (by omega) (by omega) (fun z14 h14 => ⟨_, rfl, ?_⟩))
    refine xild 18 ⟨u276, _, rfl⟩ rfl rfl ?_
    refine xcmp_ne 21 ⟨u276, _, rfl⟩ rfl (fun c18 => ?_) (fun c18 => ?_)
    · refine xcst 26 (0) ⟨u276, _, rfl⟩ rfl (by decide) (fun z25 h25 => ?_)
      refine xcst 27 (3) ⟨u276, _, rfl⟩ rfl (by decide) (fun z26 h26 => ?_)
      refine xcall 30 [.ref 66, .int _, .int _] [] hH4 ⟨u276, _, rfl⟩ rfl rfl rfl rfl rfl (k_fails2 hH4 hP4 (by omega) (fun hp27 hH27 hP27 F27 => ⟨_, rfl, ?_⟩))
      have G27 := G4.trans (bFr_sub (W1 := wM) F27 (by decide))
      have e27 : rN hp27 67 0 = rN hp4 67 0 := r_fr F27 rfl
      have t27 : ∀ u v, tT hp27 u v = tT hp4 u v := fun u v => r_fr F27 rfl
      refine xif_eq 33 ⟨u276, _, rfl⟩ rfl (fun c30 => ?_) (fun c30 => ?_)
      · refine xald 36 ⟨u276, _, rfl⟩ rfl rfl ?_
        refine xcall 39 [.ref 66] [] hH27 ⟨u276, _, rfl⟩ rfl rfl rfl rfl rfl (k_rem hH27 hP27 (fun hp36 hH36 hP36 F36 => ⟨_, rfl, ?_⟩))
        have G36 := G27.trans (bFr_sub (W1 := wM) F36 (by decide))
        have e36 : rN hp36 67 0 = rN hp27 67 0 := r_fr F36 rfl
        have t36 : ∀ u v, tT hp36 u v = tT hp27 u v := fun u v => r_fr F36 rfl
        refine xald 40 ⟨u276, _, rfl⟩ rfl rfl ?_
        refine xild 41 ⟨u276, _, rfl⟩ rfl rfl ?_
        refine xild 42 ⟨u276, _, rfl⟩ rfl rfl ?_
        refine xcall 45 [.ref 66, .int _, .int _] [] hH36 ⟨u276, _, rfl⟩ rfl rfl rfl rfl rfl (k_removes hH36 hP36 (by omega) (by omega) (by omega) (by omega) (fun z42 hp42 hH42 hP42 F42 h42 E42 N42 O42 => ⟨_, rfl, ?_⟩))
        have G42 := G36.trans (bFr_sub (W1 := wM) F42 (by decide))
        have e42 := E42
        refine xald 46 ⟨u276, _, rfl⟩ rfl rfl ?_
        refine xild 47 ⟨u276, _, rfl⟩ rfl rfl ?_
        refine xild 48 ⟨u276, _, rfl⟩ rfl rfl ?_
        refine xcall 51 [.ref 66, .int _, .int _] [.int _] hH42 ⟨u276, _, rfl⟩ rfl rfl rfl rfl rfl (k_removes hH42 hP42 (by omega) (by omega) (by omega) (by omega) (fun z48 hp48 hH48 hP48 F48 h48 E48 N48 O48 => ⟨_, rfl, ?_⟩))
        have G48 := G42.trans (bFr_sub (W1 := wM) F48 (by decide))
        have e48 := E48
        refine xadd 52 _ ⟨u276, _, rfl⟩ rfl rfl (by omega) (by omega) (fun z51 h51 => ?_)
        refine xald 53 ⟨u276, _, rfl⟩ rfl rfl ?_
        refine xild 54 ⟨u276, _, rfl⟩ rfl rfl ?_
        refine xild 55 ⟨u276, _, rfl⟩ rfl rfl ?_
        refine xcall 58 [.ref 66, .int _, .int _] [.int _] hH48 ⟨u276, _, rfl⟩ rfl rfl rfl rfl rfl (k_removes hH48 hP48 (by omega) (by omega) (by omega) (by omega) (fun z55 hp55 hH55 hP55 F55 h55 E55 N55 O55 => ⟨_, rfl, ?_⟩))
        have G55 := G48.trans (bFr_sub (W1 := wM) F55 (by decide))
        have e55 := E55
        refine xadd 59 _ ⟨u276, _, rfl⟩ rfl rfl (by omega) (by omega) (fun z58 h58 => ?_)
        refine xist2 61 ⟨u276, _, rfl⟩ rfl rfl ?_
        refine xald 62 ⟨u276, _, rfl⟩ rfl rfl ?_
        refine xild 63 ⟨u276, _, rfl⟩ rfl rfl ?_
        refine xild 64 ⟨u276, _, rfl⟩ rfl rfl ?_
        refine xild 65 ⟨u276, _, rfl⟩ rfl rfl ?_
        refine xcall 68 [.ref 66, .int _, .int _, .int _] [] hH55 ⟨u276, _, rfl⟩ rfl rfl rfl rfl rfl (k_put hH55 hP55 (by omega) (by omega) (by omega) (by omega) (by omega) (by omega) (by omega) (by omega) (by omega) ⟨O55 _ _ (by omega) (by omega) (O48 _ _ (by omega) (by omega) N42), O55 _ _ (by omega) (by omega) N48, N55⟩ (fun hp65 hH65 hP65 F65 E65 T65 => ⟨_, rfl, ?_⟩))
        have G65 := G55.trans (bFr_sub (W1 := wM) F65 (by decide))
        have e65 : rN hp65 67 0 = rN hp55 67 0 := E65 0 (by omega)
        refine xild2 70 ⟨u276, _, rfl⟩ rfl rfl ?_
        exact xret ⟨u276, _, rfl⟩ rfl ⟨⟨_, rfl⟩, hH65, hP65, G65⟩
      · exact j33 _ hH27 hP27 G27
    · refine xcst 22 (1) ⟨u276, _, rfl⟩ rfl (by decide) (fun z21 h21 => ?_)
      refine xgoto ⟨u276, _, rfl⟩ ?_
      refine xcst 27 (3) ⟨u276, _, rfl⟩ rfl (by decide) (fun z26 h26 => ?_)
      refine xcall 30 [.ref 66, .int _, .int _] [] hH4 ⟨u276, _, rfl⟩ rfl rfl rfl rfl rfl (k_fails2 hH4 hP4 (by omega) (fun hp27 hH27 hP27 F27 => ⟨_, rfl, ?_⟩))
      have G27 := G4.trans (bFr_sub (W1 := wM) F27 (by decide))
      have e27 : rN hp27 67 0 = rN hp4 67 0 := r_fr F27 rfl
      have t27 : ∀ u v, tT hp27 u v = tT hp4 u v := fun u v => r_fr F27 rfl
      refine xif_eq 33 ⟨u276, _, rfl⟩ rfl (fun c30 => ?_) (fun c30 => ?_)
      · refine xald 36 ⟨u276, _, rfl⟩ rfl rfl ?_
        refine xcall 39 [.ref 66] [] hH27 ⟨u276, _, rfl⟩ rfl rfl rfl rfl rfl (k_rem hH27 hP27 (fun hp36 hH36 hP36 F36 => ⟨_, rfl, ?_⟩))
        have G36 := G27.trans (bFr_sub (W1 := wM) F36 (by decide))
        have e36 : rN hp36 67 0 = rN hp27 67 0 := r_fr F36 rfl
        have t36 : ∀ u v, tT hp36 u v = tT hp27 u v := fun u v => r_fr F36 rfl
        refine xald 40 ⟨u276, _, rfl⟩ rfl rfl ?_
        refine xild 41 ⟨u276, _, rfl⟩ rfl rfl ?_
        refine xild 42 ⟨u276, _, rfl⟩ rfl rfl ?_
        refine xcall 45 [.ref 66, .int _, .int _] [] hH36 ⟨u276, _, rfl⟩ rfl rfl rfl rfl rfl (k_removes hH36 hP36 (by omega) (by omega) (by omega) (by omega) (fun z42 hp42 hH42 hP42 F42 h42 E42 N42 O42 => ⟨_, rfl, ?_⟩))
        have G42 := G36.trans (bFr_sub (W1 := wM) F42 (by decide))
        have e42 := E42
        refine xald 46 ⟨u276, _, rfl⟩ rfl rfl ?_
        refine xild 47 ⟨u276, _, rfl⟩ rfl rfl ?_
        refine xild 48 ⟨u276, _, rfl⟩ rfl rfl ?_
        refine xcall 51 [.ref 66, .int _, .int _] [.int _] hH42 ⟨u276, _, rfl⟩ rfl rfl rfl rfl rfl (k_removes hH42 hP42 (by omega) (by omega) (by omega) (by omega) (fun z48 hp48 hH48 hP48 F48 h48 E48 N48 O48 => ⟨_, rfl, ?_⟩))
        have G48 := G42.trans (bFr_sub (W1 := wM) F48 (by decide))
        have e48 := E48
        refine xadd 52 _ ⟨u276, _, rfl⟩ rfl rfl (by omega) (by omega) (fun z51 h51 => ?_)
        refine xald 53 ⟨u276, _, rfl⟩ rfl rfl ?_
        refine xild 54 ⟨u276, _, rfl⟩ rfl rfl ?_
        refine xild 55 ⟨u276, _, rfl⟩ rfl rfl ?_
        refine xcall 58 [.ref 66, .int _, .int _] [.int _] hH48 ⟨u276, _, rfl⟩ rfl rfl rfl rfl rfl (k_removes hH48 hP48 (by omega) (by omega) (by omega) (by omega) (fun z55 hp55 hH55 hP55 F55 h55 E55 N55 O55 => ⟨_, rfl, ?_⟩))
        have G55 := G48.trans (bFr_sub (W1 := wM) F55 (by decide))
        have e55 := E55
        refine xadd 59 _ ⟨u276, _, rfl⟩ rfl rfl (by omega) (by omega) (fun z58 h58 => ?_)
        refine xist2 61 ⟨u276, _, rfl⟩ rfl rfl ?_
        refine xald 62 ⟨u276, _, rfl⟩ rfl rfl ?_
        refine xild 63 ⟨u276, _, rfl⟩ rfl rfl ?_
        refine xild 64 ⟨u276, _, rfl⟩ rfl rfl ?_
        refine xild 65 ⟨u276, _, rfl⟩ rfl rfl ?_
        refine xcall 68 [.ref 66, .int _, .int _, .int _] [] hH55 ⟨u276, _, rfl⟩ rfl rfl rfl rfl rfl (k_put hH55 hP55 (by omega) (by omega) (by omega) (by omega) (by omega) (by omega) (by omega) (by omega) (by omega) ⟨O55 _ _ (by omega) (by omega) (O48 _ _ (by omega) (by omega) N42), O55 _ _ (by omega) (by omega) N48, N55⟩ (fun hp65 hH65 hP65 F65 E65 T65 => ⟨_, rfl, ?_⟩))
        have G65 := G55.trans (bFr_sub (W1 := wM) F65 (by decide))
        have e65 : rN hp65 67 0 = rN hp55 67 0 := E65 0 (by omega)
        refine xild2 70 ⟨u276, _, rfl⟩ rfl rfl ?_
        exact xret ⟨u276, _, rfl⟩ rfl ⟨⟨_, rfl⟩, hH65, hP65, G65⟩
      · exact j33 _ hH27 hP27 G27
theorem u269 : bUp 0 am_m269.1 = true := by decide +kernel
theorem k_reason {d : Nat} {hp : amH} {R : xQ} {a b c : Int32} (hH : bHk 84 bTT hp) (hP : P0 hp) (a1 : 0 ≤ a.toInt) (a2 : a.toInt < 15) (b1 : 0 ≤ b.toInt) (b2 : b.toInt < 15) (c1 : 0 ≤ c.toInt) (c2 : c.toInt < 15) (hR : ∀ z : Int32, (z.toInt = 0 → fr3 hp a.toInt.toNat b.toInt.toNat c.toInt.toNat) → R (.inl (some (.int z))) hp) : xK (d + 3) 269 [.ref 66, .int a, .int b, .int c] hp R := by
  refine xin (M := am_m269) rfl rfl rfl ?_
  have g1 := cv_01 hp a.toInt.toNat b.toInt.toNat
  have g2 := cv_01 hp b.toInt.toNat c.toInt.toNat
  have g3 := cv_01 hp a.toInt.toNat c.toInt.toNat
  refine xald 1 ⟨u269, _, rfl⟩ rfl rfl ?_
  refine xild 2 ⟨u269, _, rfl⟩ rfl rfl ?_
  refine xild 3 ⟨u269, _, rfl⟩ rfl rfl ?_
  refine xcall 6 [.ref 66, .int _, .int _] [] hH ⟨u269, _, rfl⟩ rfl rfl rfl rfl rfl (k_third hH (by omega) (by omega) (by omega) (by omega) (fun z3 h3 => ⟨_, rfl, ?_⟩))
  refine xild 7 ⟨u269, _, rfl⟩ rfl rfl ?_
  refine xcmp_ne 10 ⟨u269, _, rfl⟩ rfl (fun c7 => ?_) (fun c7 => ?_)
  · refine xald 13 ⟨u269, _, rfl⟩ rfl rfl ?_
    refine xild 14 ⟨u269, _, rfl⟩ rfl rfl ?_
    refine xild 15 ⟨u269, _, rfl⟩ rfl rfl ?_
    refine xild 16 ⟨u269, _, rfl⟩ rfl rfl ?_
    refine xcall 19 [.ref 66, .int _, .int _, .int _] [] hH ⟨u269, _, rfl⟩ rfl rfl rfl rfl rfl (k_covin hH (by omega) (by omega) (by omega) (by omega) (by omega) (by omega) (fun z16 h16 => ⟨_, rfl, ?_⟩))
    refine xist2 21 ⟨u269, _, rfl⟩ rfl rfl ?_
    refine xild2 23 ⟨u269, _, rfl⟩ rfl rfl ?_
    refine xif_ne 26 ⟨u269, _, rfl⟩ rfl (fun c23 => ?_) (fun c23 => ?_)
    · refine xcst 31 (1) ⟨u269, _, rfl⟩ rfl (by decide) (fun z30 h30 => ?_)
      refine xild2 33 ⟨u269, _, rfl⟩ rfl rfl ?_
      refine xadd 34 _ ⟨u269, _, rfl⟩ rfl rfl (by omega) (by omega) (fun z33 h33 => ?_)
      exact xret ⟨u269, _, rfl⟩ rfl (hR _ (fun z => absurd z (by omega)))
    · refine xcst 27 (0) ⟨u269, _, rfl⟩ rfl (by decide) (fun z26 h26 => ?_)
      refine xgoto ⟨u269, _, rfl⟩ ?_
      exact xret ⟨u269, _, rfl⟩ rfl (hR _ (fun _ => by
        rw [h16] at c23
        unfold cv at c23
        unfold fr3
        split at c23 <;> split at c23 <;> split at c23 <;> omega))
  · refine xcst 11 (1) ⟨u269, _, rfl⟩ rfl (by decide) (fun z10 h10 => ?_)
    exact xret ⟨u269, _, rfl⟩ rfl (hR _ (fun z => absurd z (by omega)))
theorem u272 : bUp 0 am_m272.1 = true := by decide +kernel
theorem p272_s : bSem amGG P0 84 bTT 272 (sPub 3 9) := by
  refine pub3 (N := am_m272) rfl (fun x y z hp hH hP => ?_)
  refine xin (M := am_m272) rfl rfl rfl ?_
  have G := bFr.refl wM hp
  have q1 := hP.1.1
  have q2 := hP.1.2.1
  have j33 : ∀ hp1, bHk 84 bTT hp1 → P0 hp1 → bFr wM hp hp1 → xV 9 am_m272 33 [some (.ref 66), some (.int x), some (.int y), some (.int z)] [] hp1 (rPub hp) := by
    intro hp1 hH1 hP1 G1
    refine xcst 34 (0) ⟨u272, _, rfl⟩ rfl (by decide) (fun z33 h33 => ?_)
    exact xret ⟨u272, _, rfl⟩ rfl ⟨⟨_, rfl⟩, hH1, hP1, G1⟩
  refine xald 1 ⟨u272, _, rfl⟩ rfl rfl ?_
  refine xild 2 ⟨u272, _, rfl⟩ rfl rfl ?_
  refine xild 3 ⟨u272, _, rfl⟩ rfl rfl ?_
  refine xild 4 ⟨u272, _, rfl⟩ rfl rfl ?_
  refine xcall 7 [.ref 66, .int _, .int _, .int _] [] hH ⟨u272, _, rfl⟩ rfl rfl rfl rfl rfl (k_noset hH hP (fun z4 hp4 hH4 hP4 F4 h4 => ⟨_, rfl, ?_⟩))
  have G4 := G.trans (bFr_sub (W1 := wM) F4 (by decide))
  have e4 : rN hp4 67 0 = rN hp 67 0 := r_fr F4 rfl
  have t4 : ∀ u v, tT hp4 u v = tT hp u v := fun u v => r_fr F4 rfl
  refine xif_ne 10 ⟨u272, _, rfl⟩ rfl (fun c7 => ?_) (fun c7 => ?_)
  · exact j33 _ hH4 hP4 G4
  · refine xald 11 ⟨u272, _, rfl⟩ rfl rfl ?_
    refine xald 12 ⟨u272, _, rfl⟩ rfl rfl ?_
    refine xild 13 ⟨u272, _, rfl⟩ rfl rfl ?_
    refine xild 14 ⟨u272, _, rfl⟩ rfl rfl ?_
    refine xild 15 ⟨u272, _, rfl⟩ rfl rfl ?_
    refine xcall 18 [.ref 66, .int _, .int _, .int _] [.ref 66] hH4 ⟨u272, _, rfl⟩ rfl rfl rfl rfl rfl (k_reason hH4 hP4 (by omega) (by omega) (by omega) (by omega) (by omega) (by omega) (fun z15 h15 => ⟨_, rfl, ?_⟩))
    refine xif_eq 21 ⟨u272, _, rfl⟩ rfl (fun c18 => ?_) (fun c18 => ?_)
    · refine xcst 26 (0) ⟨u272, _, rfl⟩ rfl (by decide) (fun z25 h25 => ?_)
      refine xcst 27 (3) ⟨u272, _, rfl⟩ rfl (by decide) (fun z26 h26 => ?_)
      refine xcall 30 [.ref 66, .int _, .int _] [] hH4 ⟨u272, _, rfl⟩ rfl rfl rfl rfl rfl (k_fails2 hH4 hP4 (by omega) (fun hp27 hH27 hP27 F27 => ⟨_, rfl, ?_⟩))
      have G27 := G4.trans (bFr_sub (W1 := wM) F27 (by decide))
      have e27 : rN hp27 67 0 = rN hp4 67 0 := r_fr F27 rfl
      have t27 : ∀ u v, tT hp27 u v = tT hp4 u v := fun u v => r_fr F27 rfl
      refine xif_eq 33 ⟨u272, _, rfl⟩ rfl (fun c30 => ?_) (fun c30 => ?_)
      · refine xald 36 ⟨u272, _, rfl⟩ rfl rfl ?_
        refine xcall 39 [.ref 66] [] hH27 ⟨u272, _, rfl⟩ rfl rfl rfl rfl rfl (k_rem hH27 hP27 (fun hp36 hH36 hP36 F36 => ⟨_, rfl, ?_⟩))
        have G36 := G27.trans (bFr_sub (W1 := wM) F36 (by decide))
        have e36 : rN hp36 67 0 = rN hp27 67 0 := r_fr F36 rfl
        have t36 : ∀ u v, tT hp36 u v = tT hp27 u v := fun u v => r_fr F36 rfl
        refine xald 40 ⟨u272, _, rfl⟩ rfl rfl ?_
        refine xild 41 ⟨u272, _, rfl⟩ rfl rfl ?_
        refine xild 42 ⟨u272, _, rfl⟩ rfl rfl ?_
        refine xild 43 ⟨u272, _, rfl⟩ rfl rfl ?_
        refine xcall 46 [.ref 66, .int _, .int _, .int _] [] hH36 ⟨u272, _, rfl⟩ rfl rfl rfl rfl rfl (k_put hH36 hP36 (by omega) (by omega) (by omega) (by omega) (by omega) (by omega) (by omega) (by omega) (by omega) (by
        have f := h15 c18
        unfold fr3 at f ⊢
        rw [t36, t27, t36, t27, t36, t27]
        exact f) (fun hp43 hH43 hP43 F43 E43 T43 => ⟨_, rfl, ?_⟩))
        have G43 := G36.trans (bFr_sub (W1 := wM) F43 (by decide))
        have e43 : rN hp43 67 0 = rN hp36 67 0 := E43 0 (by omega)
        refine xald 47 ⟨u272, _, rfl⟩ rfl rfl ?_
        refine xcall 50 [.ref 66] [] hH43 ⟨u272, _, rfl⟩ rfl rfl rfl rfl rfl (k_lt hH43 hP43 (fun hp47 hH47 hP47 F47 => ⟨_, rfl, ?_⟩))
        have G47 := G43.trans (bFr_sub (W1 := wM) F47 (by decide))
        have e47 : rN hp47 67 0 = rN hp43 67 0 := r_fr F47 rfl
        have t47 : ∀ u v, tT hp47 u v = tT hp43 u v := fun u v => r_fr F47 rfl
        refine xald 51 ⟨u272, _, rfl⟩ rfl rfl ?_
        refine xcst 52 (1) ⟨u272, _, rfl⟩ rfl (by decide) (fun z51 h51 => ?_)
        refine xild 53 ⟨u272, _, rfl⟩ rfl rfl ?_
        refine xshl 54 ⟨u272, _, rfl⟩ rfl ?_
        refine xcst 55 (1) ⟨u272, _, rfl⟩ rfl (by decide) (fun z54 h54 => ?_)
        refine xild 56 ⟨u272, _, rfl⟩ rfl rfl ?_
        refine xshl 57 ⟨u272, _, rfl⟩ rfl ?_
        refine xor_ 58 ⟨u272, _, rfl⟩ rfl ?_
        refine xcst 59 (1) ⟨u272, _, rfl⟩ rfl (by decide) (fun z58 h58 => ?_)
        refine xild 60 ⟨u272, _, rfl⟩ rfl rfl ?_
        refine xshl 61 ⟨u272, _, rfl⟩ rfl ?_
        refine xor_ 62 ⟨u272, _, rfl⟩ rfl ?_
        refine xcall 65 [.ref 66, .int _] [] hH47 ⟨u272, _, rfl⟩ rfl rfl rfl rfl rfl (k_num hH47 hP47 (fun z62 h62 hp62 hH62 hP62 F62 => ⟨_, rfl, ?_⟩))
        have G62 := G47.trans (bFr_sub (W1 := wM) F62 (by decide))
        have e62 : rN hp62 67 0 = rN hp47 67 0 := r_fr F62 rfl
        have t62 : ∀ u v, tT hp62 u v = tT hp47 u v := fun u v => r_fr F62 rfl
        exact xret ⟨u272, _, rfl⟩ rfl ⟨⟨_, rfl⟩, hH62, hP62, G62⟩
      · exact j33 _ hH27 hP27 G27
    · refine xcst 22 (1) ⟨u272, _, rfl⟩ rfl (by decide) (fun z21 h21 => ?_)
      refine xgoto ⟨u272, _, rfl⟩ ?_
      refine xcst 27 (3) ⟨u272, _, rfl⟩ rfl (by decide) (fun z26 h26 => ?_)
      refine xcall 30 [.ref 66, .int _, .int _] [] hH4 ⟨u272, _, rfl⟩ rfl rfl rfl rfl rfl (k_fails2 hH4 hP4 (by omega) (fun hp27 hH27 hP27 F27 => ⟨_, rfl, ?_⟩))
      have G27 := G4.trans (bFr_sub (W1 := wM) F27 (by decide))
      refine xif_eq 33 ⟨u272, _, rfl⟩ rfl (fun c30 => absurd c30 (by omega)) (fun c30 => ?_)
      exact j33 _ hH27 hP27 G27
theorem u278 : bUp 0 am_m278.1 = true := by decide +kernel
theorem l278 {hp0 : amH} {x : Int32} (x1 : 0 ≤ x.toInt) (x2 : x.toInt < 15) : ∀ (j : Nat) (n k : Int32) (hp : amH), bHk 84 bTT hp → P0 hp → bFr wM hp0 hp → k.toInt + (j : Int) = 15 → 0 ≤ k.toInt → 0 ≤ n.toInt → n.toInt ≤ k.toInt → xV 9 am_m278 18 [some (.ref 66), some (.int x), some (.int n), some (.int k)] [] hp (rPub hp0) := by
  intro j
  induction j using Nat.strongRecOn with
  | ind j ih =>
    intro n k hp hH hP G hj k0 n0 n1
    have q1 := hP.1.1
    have q2 := hP.1.2.1
    refine xild 19 ⟨u278, _, rfl⟩ rfl rfl ?_
    refine xald 20 ⟨u278, _, rfl⟩ rfl rfl ?_
    refine xcall 23 [.ref 66] [.int _] hH ⟨u278, _, rfl⟩ rfl rfl rfl rfl rfl (k_points hH (fun z20 h20 => ⟨_, rfl, ?_⟩))
    refine xcmp_ge 26 ⟨u278, _, rfl⟩ rfl (fun c23 => ?_) (fun c23 => ?_)
    · refine xild 47 ⟨u278, _, rfl⟩ rfl rfl ?_
      exact xret ⟨u278, _, rfl⟩ rfl ⟨⟨_, rfl⟩, hH, hP, G⟩
    · refine xild 27 ⟨u278, _, rfl⟩ rfl rfl ?_
      refine xild 28 ⟨u278, _, rfl⟩ rfl rfl ?_
      refine xcmp_eq 31 ⟨u278, _, rfl⟩ rfl (fun c28 => ?_) (fun c28 => ?_)
      · refine xinc 43 (1) ⟨u278, _, rfl⟩ rfl rfl rfl (by decide) (by omega) (by omega) (fun z40 h40 => ?_)
        refine xgoto ⟨u278, _, rfl⟩ ?_
        exact ih (j - 1) (by omega) _ _ _ hH hP G (by omega) (by omega) (by omega) (by omega)
      · refine xild 32 ⟨u278, _, rfl⟩ rfl rfl ?_
        refine xald 33 ⟨u278, _, rfl⟩ rfl rfl ?_
        refine xild 34 ⟨u278, _, rfl⟩ rfl rfl ?_
        refine xild 35 ⟨u278, _, rfl⟩ rfl rfl ?_
        refine xcall 38 [.ref 66, .int _, .int _] [.int _] hH ⟨u278, _, rfl⟩ rfl rfl rfl rfl rfl (k_removes hH hP (by omega) (by omega) (by omega) (by omega) (fun z35 hp35 hH35 hP35 F35 h35 E35 N35 O35 => ⟨_, rfl, ?_⟩))
        have G35 := G.trans (bFr_sub (W1 := wM) F35 (by decide))
        have e35 := E35
        refine xadd 39 _ ⟨u278, _, rfl⟩ rfl rfl (by omega) (by omega) (fun z38 h38 => ?_)
        refine xist 40 ⟨u278, _, rfl⟩ rfl rfl ?_
        refine xinc 43 (1) ⟨u278, _, rfl⟩ rfl rfl rfl (by decide) (by omega) (by omega) (fun z40 h40 => ?_)
        refine xgoto ⟨u278, _, rfl⟩ ?_
        exact ih (j - 1) (by omega) _ _ _ hH35 hP35 G35 (by omega) (by omega) (by omega) (by omega)
theorem p278_s : bSem amGG P0 84 bTT 278 (sPub 1 9) := by
  refine pub1 (N := am_m278) rfl (fun x hp hH hP => ?_)
  refine xin (M := am_m278) rfl rfl rfl ?_
  have G := bFr.refl wM hp
  have q1 := hP.1.1
  have q2 := hP.1.2.1
  refine xald 1 ⟨u278, _, rfl⟩ rfl rfl ?_
  refine xild 2 ⟨u278, _, rfl⟩ rfl rfl ?_
  refine xcall 5 [.ref 66, .int _] [] hH ⟨u278, _, rfl⟩ rfl rfl rfl rfl rfl (k_nopt hH hP (fun z2 hp2 hH2 hP2 F2 h2 => ⟨_, rfl, ?_⟩))
  have G2 := G.trans (bFr_sub (W1 := wM) F2 (by decide))
  have e2 : rN hp2 67 0 = rN hp 67 0 := r_fr F2 rfl
  have t2 : ∀ u v, tT hp2 u v = tT hp u v := fun u v => r_fr F2 rfl
  refine xif_eq 8 ⟨u278, _, rfl⟩ rfl (fun c5 => ?_) (fun c5 => ?_)
  · refine xald 11 ⟨u278, _, rfl⟩ rfl rfl ?_
    refine xcall 14 [.ref 66] [] hH2 ⟨u278, _, rfl⟩ rfl rfl rfl rfl rfl (k_rem hH2 hP2 (fun hp11 hH11 hP11 F11 => ⟨_, rfl, ?_⟩))
    have G11 := G2.trans (bFr_sub (W1 := wM) F11 (by decide))
    have e11 : rN hp11 67 0 = rN hp2 67 0 := r_fr F11 rfl
    have t11 : ∀ u v, tT hp11 u v = tT hp2 u v := fun u v => r_fr F11 rfl
    refine xcst 15 (0) ⟨u278, _, rfl⟩ rfl (by decide) (fun z14 h14 => ?_)
    refine xist 16 ⟨u278, _, rfl⟩ rfl rfl ?_
    refine xcst 17 (0) ⟨u278, _, rfl⟩ rfl (by decide) (fun z16 h16 => ?_)
    refine xist 18 ⟨u278, _, rfl⟩ rfl rfl ?_
    exact l278 (by omega) (by omega) 15 _ _ _ hH11 hP11 G11 (by omega) (by omega) (by omega) (by omega)
  · refine xcst 9 (0) ⟨u278, _, rfl⟩ rfl (by decide) (fun z8 h8 => ?_)
    exact xret ⟨u278, _, rfl⟩ rfl ⟨⟨_, rfl⟩, hH2, hP2, G2⟩
theorem u275 : bUp 0 am_m275.1 = true := by decide +kernel
theorem l275c {hp0 : amH} {a b : Int32} {bb : Int} (a0 : 0 ≤ a.toInt) (a1 : a.toInt < b.toInt) (hb : b.toInt = bb) (hQ : ∀ (n b : Int32) (hp : amH), bHk 84 bTT hp → P0 hp → bFr wM hp0 hp → 0 ≤ n.toInt → n.toInt ≤ 300 * a.toInt + 20 * b.toInt → b.toInt = bb + 1 → ∀ v, xV 9 am_m275 25 [some (.ref 66), some (.int n), some (.int a), some (.int b), v] [] hp (rPub hp0)) : ∀ (j : Nat) (n c : Int32) (hp : amH), bHk 84 bTT hp → P0 hp → bFr wM hp0 hp → c.toInt + (j : Int) = 15 → b.toInt < c.toInt → 0 ≤ n.toInt → n.toInt ≤ 300 * a.toInt + 20 * b.toInt + c.toInt → xV 9 am_m275 38 [some (.ref 66), some (.int n), some (.int a), some (.int b), some (.int c)] [] hp (rPub hp0) := by
  intro j
  induction j using Nat.strongRecOn with
  | ind j ih =>
    intro n c hp hH hP G hj c0 n0 n1
    have q1 := hP.1.1
    have q2 := hP.1.2.1
    refine xild2 40 ⟨u275, _, rfl⟩ rfl rfl ?_
    refine xald 41 ⟨u275, _, rfl⟩ rfl rfl ?_
    refine xcall 44 [.ref 66] [.int _] hH ⟨u275, _, rfl⟩ rfl rfl rfl rfl rfl (k_points hH (fun z41 h41 => ⟨_, rfl, ?_⟩))
    refine xcmp_ge 47 ⟨u275, _, rfl⟩ rfl (fun c44 => ?_) (fun c44 => ?_)
    · refine xinc 81 (1) ⟨u275, _, rfl⟩ rfl rfl rfl (by decide) (by omega) (by omega) (fun z78 h78 => ?_)
      refine xgoto ⟨u275, _, rfl⟩ ?_
      exact hQ _ _ _ hH hP G (by omega) (by omega) (by omega) _
    · refine xald 48 ⟨u275, _, rfl⟩ rfl rfl ?_
      refine xild 49 ⟨u275, _, rfl⟩ rfl rfl ?_
      refine xild 50 ⟨u275, _, rfl⟩ rfl rfl ?_
      refine xild2 52 ⟨u275, _, rfl⟩ rfl rfl ?_
      refine xcall 55 [.ref 66, .int _, .int _, .int _] [] hH ⟨u275, _, rfl⟩ rfl rfl rfl rfl rfl (k_free hH (by omega) (by omega) (by omega) (by omega) (by omega) (by omega) (fun z52 h52 => ⟨_, rfl, ?_⟩))
      refine xif_ne 58 ⟨u275, _, rfl⟩ rfl (fun c55 => ?_) (fun c55 => ?_)
      · refine xald 62 ⟨u275, _, rfl⟩ rfl rfl ?_
        refine xild 63 ⟨u275, _, rfl⟩ rfl rfl ?_
        refine xild 64 ⟨u275, _, rfl⟩ rfl rfl ?_
        refine xild2 66 ⟨u275, _, rfl⟩ rfl rfl ?_
        refine xcall 69 [.ref 66, .int _, .int _, .int _] [] hH ⟨u275, _, rfl⟩ rfl rfl rfl rfl rfl (k_put hH hP (by omega) (by omega) (by omega) (by omega) (by omega) (by omega) (by omega) (by omega) (by omega) (by rcases h52 with z | z <;> first | exact z.2 | omega) (fun hp66 hH66 hP66 F66 E66 T66 => ⟨_, rfl, ?_⟩))
        have G66 := G.trans (bFr_sub (W1 := wM) F66 (by decide))
        have e66 : rN hp66 67 0 = rN hp 67 0 := E66 0 (by omega)
        refine xinc 72 (1) ⟨u275, _, rfl⟩ rfl rfl rfl (by decide) (by omega) (by omega) (fun z69 h69 => ?_)
        refine xinc 75 (1) ⟨u275, _, rfl⟩ rfl rfl rfl (by decide) (by omega) (by omega) (fun z72 h72 => ?_)
        refine xgoto ⟨u275, _, rfl⟩ ?_
        exact ih (j - 1) (by omega) _ _ _ hH66 hP66 G66 (by omega) (by omega) (by omega) (by omega)
      · refine xgoto ⟨u275, _, rfl⟩ ?_
        refine xinc 75 (1) ⟨u275, _, rfl⟩ rfl rfl rfl (by decide) (by omega) (by omega) (fun z72 h72 => ?_)
        refine xgoto ⟨u275, _, rfl⟩ ?_
        exact ih (j - 1) (by omega) _ _ _ hH hP G (by omega) (by omega) (by omega) (by omega)
theorem l275b {hp0 : amH} {a : Int32} {aa : Int} (a0 : 0 ≤ a.toInt) (ha : a.toInt = aa) (hQ : ∀ (n a : Int32) (hp : amH), bHk 84 bTT hp → P0 hp → bFr wM hp0 hp → 0 ≤ n.toInt → n.toInt ≤ 300 * a.toInt → a.toInt = aa + 1 → ∀ v w, xV 9 am_m275 13 [some (.ref 66), some (.int n), some (.int a), v, w] [] hp (rPub hp0)) : ∀ (j : Nat) (n b : Int32) (v : Option Value) (hp : amH), bHk 84 bTT hp → P0 hp → bFr wM hp0 hp → b.toInt + (j : Int) = 15 → a.toInt < b.toInt → 0 ≤ n.toInt → n.toInt ≤ 300 * a.toInt + 20 * b.toInt → xV 9 am_m275 25 [some (.ref 66), some (.int n), some (.int a), some (.int b), v] [] hp (rPub hp0) := by
  intro j
  induction j using Nat.strongRecOn with
  | ind j ih =>
    intro n b v hp hH hP G hj b0 n0 n1
    have q1 := hP.1.1
    have q2 := hP.1.2.1
    refine xild 26 ⟨u275, _, rfl⟩ rfl rfl ?_
    refine xald 27 ⟨u275, _, rfl⟩ rfl rfl ?_
    refine xcall 30 [.ref 66] [.int _] hH ⟨u275, _, rfl⟩ rfl rfl rfl rfl rfl (k_points hH (fun z27 h27 => ⟨_, rfl, ?_⟩))
    refine xcmp_ge 33 ⟨u275, _, rfl⟩ rfl (fun c30 => ?_) (fun c30 => ?_)
    · refine xinc 87 (1) ⟨u275, _, rfl⟩ rfl rfl rfl (by decide) (by omega) (by omega) (fun z84 h84 => ?_)
      refine xgoto ⟨u275, _, rfl⟩ ?_
      exact hQ _ _ _ hH hP G (by omega) (by omega) (by omega) _ _
    · refine xild 34 ⟨u275, _, rfl⟩ rfl rfl ?_
      refine xcst 35 (1) ⟨u275, _, rfl⟩ rfl (by decide) (fun z34 h34 => ?_)
      refine xadd 36 _ ⟨u275, _, rfl⟩ rfl rfl (by omega) (by omega) (fun z35 h35 => ?_)
      refine xist2 38 ⟨u275, _, rfl⟩ rfl rfl ?_
      exact l275c (bb := b.toInt) a0 b0 rfl (fun n1 b1 hp1 k1 k2 k3 k4 k5 k6 v1 => ih (j - 1) (by omega) _ _ _ _ k1 k2 k3 (by omega) (by omega) k4 k5) (14 - b.toInt).toNat _ _ _ hH hP G (by omega) (by omega) (by omega) (by omega)
theorem l275a {hp0 : amH} : ∀ (j : Nat) (n a : Int32) (v w : Option Value) (hp : amH), bHk 84 bTT hp → P0 hp → bFr wM hp0 hp → a.toInt + (j : Int) = 15 → 0 ≤ a.toInt → 0 ≤ n.toInt → n.toInt ≤ 300 * a.toInt → xV 9 am_m275 13 [some (.ref 66), some (.int n), some (.int a), v, w] [] hp (rPub hp0) := by
  intro j
  induction j using Nat.strongRecOn with
  | ind j ih =>
    intro n a v w hp hH hP G hj a0 n0 n1
    have q1 := hP.1.1
    have q2 := hP.1.2.1
    refine xild 14 ⟨u275, _, rfl⟩ rfl rfl ?_
    refine xald 15 ⟨u275, _, rfl⟩ rfl rfl ?_
    refine xcall 18 [.ref 66] [.int _] hH ⟨u275, _, rfl⟩ rfl rfl rfl rfl rfl (k_points hH (fun z15 h15 => ⟨_, rfl, ?_⟩))
    refine xcmp_ge 21 ⟨u275, _, rfl⟩ rfl (fun c18 => ?_) (fun c18 => ?_)
    · refine xild 91 ⟨u275, _, rfl⟩ rfl rfl ?_
      exact xret ⟨u275, _, rfl⟩ rfl ⟨⟨_, rfl⟩, hH, hP, G⟩
    · refine xild 22 ⟨u275, _, rfl⟩ rfl rfl ?_
      refine xcst 23 (1) ⟨u275, _, rfl⟩ rfl (by decide) (fun z22 h22 => ?_)
      refine xadd 24 _ ⟨u275, _, rfl⟩ rfl rfl (by omega) (by omega) (fun z23 h23 => ?_)
      refine xist 25 ⟨u275, _, rfl⟩ rfl rfl ?_
      exact l275b (aa := a.toInt) a0 rfl (fun n1 a1 hp1 k1 k2 k3 k4 k5 k6 v1 w1 => ih (j - 1) (by omega) _ _ _ _ _ k1 k2 k3 (by omega) (by omega) k4 k5) (14 - a.toInt).toNat _ _ _ _ hH hP G (by omega) (by omega) (by omega) (by omega)
theorem p275_s : bSem amGG P0 84 bTT 275 (sPub 0 9) := by
  refine pub0 (N := am_m275) rfl (fun hp hH hP => ?_)
  refine xin (M := am_m275) rfl rfl rfl ?_
  have G := bFr.refl wM hp
  have q1 := hP.1.1
  have q2 := hP.1.2.1
  refine xald 1 ⟨u275, _, rfl⟩ rfl rfl ?_
  refine xcst 2 (0) ⟨u275, _, rfl⟩ rfl (by decide) (fun z1 h1 => ?_)
  refine xputI 5 hH ⟨u275, _, rfl⟩ rfl rfl ⟨rfl, rfl⟩ (by omega) (by omega) (fun hp2 hH2 U2 => ?_)
  have G2 := G.trans (rU_fr U2 (W := wM) (by decide))
  have hP2 := P0_W (W := [(66, 7)]) (by decide) (rU_fr U2 rfl) hP
  have e2 : rN hp2 67 0 = rN hp 67 0 := rU_ne U2 (by omega)
  refine xald 6 ⟨u275, _, rfl⟩ rfl rfl ?_
  refine xcall 9 [.ref 66] [] hH2 ⟨u275, _, rfl⟩ rfl rfl rfl rfl rfl (k_rem hH2 hP2 (fun hp6 hH6 hP6 F6 => ⟨_, rfl, ?_⟩))
  have G6 := G2.trans (bFr_sub (W1 := wM) F6 (by decide))
  have e6 : rN hp6 67 0 = rN hp2 67 0 := r_fr F6 rfl
  have t6 : ∀ u v, tT hp6 u v = tT hp2 u v := fun u v => r_fr F6 rfl
  refine xcst 10 (0) ⟨u275, _, rfl⟩ rfl (by decide) (fun z9 h9 => ?_)
  refine xist 11 ⟨u275, _, rfl⟩ rfl rfl ?_
  refine xcst 12 (0) ⟨u275, _, rfl⟩ rfl (by decide) (fun z11 h11 => ?_)
  refine xist 13 ⟨u275, _, rfl⟩ rfl rfl ?_
  refine xpad 2 ?_
  exact l275a 15 _ _ _ _ _ hH6 hP6 G6 (by omega) (by omega) (by omega) (by omega)
