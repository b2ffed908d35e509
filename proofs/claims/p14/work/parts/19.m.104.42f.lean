/-! ##### 19.m.104.42f ##### -/
section
/-! ===== the reference's queries that keep the state ===== -/
noncomputable def wQy : List (Nat × Nat) := [(66, 7), (66, 12), (66, 14), (66, 17), (66, 19), (66, 32), (68, 999), (69, 999), (72, 999), (73, 999), (74, 999), (75, 999), (76, 999), (77, 999), (78, 999), (79, 999), (82, 999)]
noncomputable def sPubQ (n d : Nat) : bSp := (.inr (.inr [66]) :: List.replicate n (.inl (0, 4294967295)), [], d, wQy, [], [(some (.inl (0, 4294967295)), [])])
noncomputable def rPubQ (hp : amH) : xQ := fun y hp1 => (∃ z : Int32, y = .inl (some (.int z))) ∧ bHk 84 bTT hp1 ∧ P0 hp1 ∧ bFr wQy hp hp1
theorem pub_rQ {k d n : Nat} {av : List Value} {hp : amH} (h : xK d k av hp (rPubQ hp)) : xK d k av hp (fun y hp1 => bHk 84 bTT hp1 ∧ P0 hp1 ∧ bFr wQy hp hp1 ∧ bOut 84 (sPubQ n d) y hp1) :=
  xK_mono h (fun y hp1 ⟨⟨z, e⟩, g1, g2, g3⟩ => ⟨g1, g2, g3, by rw [e]; exact ⟨_, List.mem_cons_self, ⟨z, rfl, Nat.zero_le _, bOff_le z⟩, fun f hf => by cases hf⟩⟩)
theorem pub0Q {k d : Nat} {N : amM} (hN : amGG k = some N) (h : ∀ hp, bHk 84 bTT hp → P0 hp → xK d k [.ref 66] hp (rPubQ hp)) : bSem amGG P0 84 bTT k (sPubQ 0 d) := by
  refine ⟨N, hN, fun av hp hH hP ha _ => ?_⟩
  match av, ha with
  | [v], ha =>
    rw [ref66 ha.1]
    obtain ⟨N', hN', hw⟩ := pub_rQ (n := 0) (h hp hH hP)
    rw [hN] at hN'
    cases hN'
    exact hw
theorem pub1Q {k d : Nat} {N : amM} (hN : amGG k = some N) (h : ∀ (x : Int32) hp, bHk 84 bTT hp → P0 hp → xK d k [.ref 66, .int x] hp (rPubQ hp)) : bSem amGG P0 84 bTT k (sPubQ 1 d) := by
  refine ⟨N, hN, fun av hp hH hP ha _ => ?_⟩
  match av, ha with
  | [v, a], ha =>
    obtain ⟨h0, ⟨x, rfl, -⟩, -⟩ := ha
    rw [ref66 h0]
    obtain ⟨N', hN', hw⟩ := pub_rQ (n := 1) (h x hp hH hP)
    rw [hN] at hN'
    cases hN'
    exact hw
theorem pub3Q {k d : Nat} {N : amM} (hN : amGG k = some N) (h : ∀ (x y z : Int32) hp, bHk 84 bTT hp → P0 hp → xK d k [.ref 66, .int x, .int y, .int z] hp (rPubQ hp)) : bSem amGG P0 84 bTT k (sPubQ 3 d) := by
  refine ⟨N, hN, fun av hp hH hP ha _ => ?_⟩
  match av, ha with
  | [v, a, b, c], ha =>
    obtain ⟨h0, ⟨x, rfl, -⟩, ⟨y, rfl, -⟩, ⟨z, rfl, -⟩, -⟩ := ha
    rw [ref66 h0]
    obtain ⟨N', hN', hw⟩ := pub_rQ (n := 3) (h x y z hp hH hP)
    rw [hN] at hN'
    cases hN'
    exact hw
theorem p314_sQ : bSem amGG P0 84 bTT 314 (sPubQ 3 9) := by
  refine pub3Q (N := am_m314) rfl (fun x y z hp hH hP => ?_)
  refine xin (M := am_m314) rfl rfl rfl ?_
  have G := bFr.refl wQy hp
  have q1 := hP.1.1
  have q2 := hP.1.2.1
  refine xald 1 ⟨u314, _, rfl⟩ rfl rfl ?_
  refine xild 2 ⟨u314, _, rfl⟩ rfl rfl ?_
  refine xild 3 ⟨u314, _, rfl⟩ rfl rfl ?_
  refine xild 4 ⟨u314, _, rfl⟩ rfl rfl ?_
  refine xcall 7 [.ref 66, .int _, .int _, .int _] [] hH ⟨u314, _, rfl⟩ rfl rfl rfl rfl rfl (k_notrain hH hP (fun z4 hp4 hH4 hP4 F4 h4 => ⟨_, rfl, ?_⟩))
  have G4 := G.trans (bFr_sub (W1 := wQy) F4 (by decide))
  have e4 : rN hp4 67 0 = rN hp 67 0 := r_fr F4 rfl
  have t4 : ∀ u v, tT hp4 u v = tT hp u v := fun u v => r_fr F4 rfl
  refine xif_eq 10 ⟨u314, _, rfl⟩ rfl (fun c7 => ?_) (fun c7 => ?_)
  · obtain hW : Wh hp4 := by rcases h4 with g | g <;> first | exact g.2.1 | (exfalso; omega)
    refine xald 15 ⟨u314, _, rfl⟩ rfl rfl ?_
    refine xild 16 ⟨u314, _, rfl⟩ rfl rfl ?_
    refine xild 17 ⟨u314, _, rfl⟩ rfl rfl ?_
    refine xild 18 ⟨u314, _, rfl⟩ rfl rfl ?_
    refine xcallS 21 [.int _, .int _, .int _] [.ref 66] hH4 ⟨u314, _, rfl⟩ rfl rfl rfl rfl rfl (k_code hH4 (by omega) (by omega) (by omega) (by omega) (by omega) (by omega) (fun z18 h18 => ⟨_, rfl, ?_⟩))
    refine xcall 24 [.ref 66, .int _] [] hH4 ⟨u314, _, rfl⟩ rfl rfl rfl rfl rfl (k_next hH4 hP4 hW (by rw [h18]; exact cdO_Cd (by omega) (by omega) (by omega) (by omega) (by omega) (by omega) (by omega) (by omega) (by omega)) (fun z21 h21 => ⟨_, rfl, ?_⟩))
    exact xret ⟨u314, _, rfl⟩ rfl ⟨⟨_, rfl⟩, hH4, hP4, G4⟩
  · refine xcst 11 (0) ⟨u314, _, rfl⟩ rfl (by decide) (fun z10 h10 => ?_)
    refine xgoto ⟨u314, _, rfl⟩ ?_
    exact xret ⟨u314, _, rfl⟩ rfl ⟨⟨_, rfl⟩, hH4, hP4, G4⟩
theorem p315_sQ : bSem amGG P0 84 bTT 315 (sPubQ 3 9) := by
  refine pub3Q (N := am_m315) rfl (fun x y z hp hH hP => ?_)
  refine xin (M := am_m315) rfl rfl rfl ?_
  have G := bFr.refl wQy hp
  have q1 := hP.1.1
  have q2 := hP.1.2.1
  refine xald 1 ⟨u315, _, rfl⟩ rfl rfl ?_
  refine xild 2 ⟨u315, _, rfl⟩ rfl rfl ?_
  refine xild 3 ⟨u315, _, rfl⟩ rfl rfl ?_
  refine xild 4 ⟨u315, _, rfl⟩ rfl rfl ?_
  refine xcall 7 [.ref 66, .int _, .int _, .int _] [] hH ⟨u315, _, rfl⟩ rfl rfl rfl rfl rfl (k_notrain hH hP (fun z4 hp4 hH4 hP4 F4 h4 => ⟨_, rfl, ?_⟩))
  have G4 := G.trans (bFr_sub (W1 := wQy) F4 (by decide))
  have e4 : rN hp4 67 0 = rN hp 67 0 := r_fr F4 rfl
  have t4 : ∀ u v, tT hp4 u v = tT hp u v := fun u v => r_fr F4 rfl
  refine xif_eq 10 ⟨u315, _, rfl⟩ rfl (fun c7 => ?_) (fun c7 => ?_)
  · obtain hW : Wh hp4 := by rcases h4 with g | g <;> first | exact g.2.1 | (exfalso; omega)
    refine xald 15 ⟨u315, _, rfl⟩ rfl rfl ?_
    refine xild 16 ⟨u315, _, rfl⟩ rfl rfl ?_
    refine xild 17 ⟨u315, _, rfl⟩ rfl rfl ?_
    refine xild 18 ⟨u315, _, rfl⟩ rfl rfl ?_
    refine xcallS 21 [.int _, .int _, .int _] [.ref 66] hH4 ⟨u315, _, rfl⟩ rfl rfl rfl rfl rfl (k_code hH4 (by omega) (by omega) (by omega) (by omega) (by omega) (by omega) (fun z18 h18 => ⟨_, rfl, ?_⟩))
    refine xcall 24 [.ref 66, .int _] [] hH4 ⟨u315, _, rfl⟩ rfl rfl rfl rfl rfl (k_lead hH4 hP4 hW (fun z21 => ⟨_, rfl, ?_⟩))
    exact xret ⟨u315, _, rfl⟩ rfl ⟨⟨_, rfl⟩, hH4, hP4, G4⟩
  · refine xcst 11 (0) ⟨u315, _, rfl⟩ rfl (by decide) (fun z10 h10 => ?_)
    refine xgoto ⟨u315, _, rfl⟩ ?_
    exact xret ⟨u315, _, rfl⟩ rfl ⟨⟨_, rfl⟩, hH4, hP4, G4⟩
theorem p316_sQ : bSem amGG P0 84 bTT 316 (sPubQ 3 9) := by
  refine pub3Q (N := am_m316) rfl (fun x y z hp hH hP => ?_)
  refine xin (M := am_m316) rfl rfl rfl ?_
  have G := bFr.refl wQy hp
  have q1 := hP.1.1
  have q2 := hP.1.2.1
  refine xald 1 ⟨u316, _, rfl⟩ rfl rfl ?_
  refine xild 2 ⟨u316, _, rfl⟩ rfl rfl ?_
  refine xild 3 ⟨u316, _, rfl⟩ rfl rfl ?_
  refine xild 4 ⟨u316, _, rfl⟩ rfl rfl ?_
  refine xcall 7 [.ref 66, .int _, .int _, .int _] [] hH ⟨u316, _, rfl⟩ rfl rfl rfl rfl rfl (k_notrain hH hP (fun z4 hp4 hH4 hP4 F4 h4 => ⟨_, rfl, ?_⟩))
  have G4 := G.trans (bFr_sub (W1 := wQy) F4 (by decide))
  have e4 : rN hp4 67 0 = rN hp 67 0 := r_fr F4 rfl
  have t4 : ∀ u v, tT hp4 u v = tT hp u v := fun u v => r_fr F4 rfl
  refine xif_eq 10 ⟨u316, _, rfl⟩ rfl (fun c7 => ?_) (fun c7 => ?_)
  · obtain hW : Wh hp4 := by rcases h4 with g | g <;> first | exact g.2.1 | (exfalso; omega)
    refine xcst 13 (0) ⟨u316, _, rfl⟩ rfl (by decide) (fun z12 h12 => ?_)
    refine xist2 15 ⟨u316, _, rfl⟩ rfl rfl ?_
    refine xild 16 ⟨u316, _, rfl⟩ rfl rfl ?_
    refine xild 17 ⟨u316, _, rfl⟩ rfl rfl ?_
    refine xild 18 ⟨u316, _, rfl⟩ rfl rfl ?_
    refine xcallS 21 [.int _, .int _, .int _] [] hH4 ⟨u316, _, rfl⟩ rfl rfl rfl rfl rfl (k_code hH4 (by omega) (by omega) (by omega) (by omega) (by omega) (by omega) (fun z18 h18 => ⟨_, rfl, ?_⟩))
    refine xist2 23 ⟨u316, _, rfl⟩ rfl rfl ?_
    exact l316 hH4 hP4 hW (cdO_Cd (a := x.toInt) (b := y.toInt) (c := z.toInt) (by omega) (by omega) (by omega) (by omega) (by omega) (by omega) (by omega) (by omega) (by omega)) (fun r => ⟨⟨r, rfl⟩, hH4, hP4, G4⟩) 456 0 _ _ (by omega) h18 (by omega) (fun k hk => by omega)
  · refine xcst 11 (0) ⟨u316, _, rfl⟩ rfl (by decide) (fun z10 h10 => ?_)
    exact xret ⟨u316, _, rfl⟩ rfl ⟨⟨_, rfl⟩, hH4, hP4, G4⟩
theorem p317_sQ : bSem amGG P0 84 bTT 317 (sPubQ 3 9) := by
  refine pub3Q (N := am_m317) rfl (fun x y z hp hH hP => ?_)
  refine xin (M := am_m317) rfl rfl rfl ?_
  have G := bFr.refl wQy hp
  have q1 := hP.1.1
  have q2 := hP.1.2.1
  refine xald 1 ⟨u317, _, rfl⟩ rfl rfl ?_
  refine xild 2 ⟨u317, _, rfl⟩ rfl rfl ?_
  refine xild 3 ⟨u317, _, rfl⟩ rfl rfl ?_
  refine xild 4 ⟨u317, _, rfl⟩ rfl rfl ?_
  refine xcall 7 [.ref 66, .int _, .int _, .int _] [] hH ⟨u317, _, rfl⟩ rfl rfl rfl rfl rfl (k_notrain hH hP (fun z4 hp4 hH4 hP4 F4 h4 => ⟨_, rfl, ?_⟩))
  have G4 := G.trans (bFr_sub (W1 := wQy) F4 (by decide))
  have e4 : rN hp4 67 0 = rN hp 67 0 := r_fr F4 rfl
  have t4 : ∀ u v, tT hp4 u v = tT hp u v := fun u v => r_fr F4 rfl
  refine xif_eq 10 ⟨u317, _, rfl⟩ rfl (fun c7 => ?_) (fun c7 => ?_)
  · obtain hW : Wh hp4 := by rcases h4 with g | g <;> first | exact g.2.1 | (exfalso; omega)
    refine xild 13 ⟨u317, _, rfl⟩ rfl rfl ?_
    refine xild 14 ⟨u317, _, rfl⟩ rfl rfl ?_
    refine xild 15 ⟨u317, _, rfl⟩ rfl rfl ?_
    refine xcallS 18 [.int _, .int _, .int _] [] hH4 ⟨u317, _, rfl⟩ rfl rfl rfl rfl rfl (k_code hH4 (by omega) (by omega) (by omega) (by omega) (by omega) (by omega) (fun z15 h15 => ⟨_, rfl, ?_⟩))
    refine xist2 20 ⟨u317, _, rfl⟩ rfl rfl ?_
    exact l317 hH4 hP4 hW (cdO_Cd (a := x.toInt) (b := y.toInt) (c := z.toInt) (by omega) (by omega) (by omega) (by omega) (by omega) (by omega) (by omega) (by omega) (by omega)) (fun r => ⟨⟨r, rfl⟩, hH4, hP4, G4⟩) 456 0 _ (by omega) h15 (fun k hk => by omega)
  · refine xcst 11 (0) ⟨u317, _, rfl⟩ rfl (by decide) (fun z10 h10 => ?_)
    exact xret ⟨u317, _, rfl⟩ rfl ⟨⟨_, rfl⟩, hH4, hP4, G4⟩
theorem p318_sQ : bSem amGG P0 84 bTT 318 (sPubQ 1 10) := by
  refine pub1Q (N := am_m318) rfl (fun x hp hH hP => ?_)
  refine xin (M := am_m318) rfl rfl rfl ?_
  have G := bFr.refl wQy hp
  have q1 := hP.1.1
  have q2 := hP.1.2.1
  refine xald 1 ⟨u318, _, rfl⟩ rfl rfl ?_
  refine xcst 2 (0) ⟨u318, _, rfl⟩ rfl (by decide) (fun z1 h1 => ?_)
  refine xputI 5 hH ⟨u318, _, rfl⟩ rfl rfl ⟨rfl, rfl⟩ (by omega) (by omega) (fun hp2 hH2 U2 => ?_)
  have G2 := G.trans (rU_fr U2 (W := wQy) (by decide))
  have hP2 := P0_W (W := [(66, 7)]) (by decide) (rU_fr U2 rfl) hP
  have e2 : rN hp2 67 0 = rN hp 67 0 := rU_ne U2 (by first | decide | exact (fun z => absurd z.1 (by decide)) | omega)
  refine xald 6 ⟨u318, _, rfl⟩ rfl rfl ?_
  refine xald 7 ⟨u318, _, rfl⟩ rfl rfl ?_
  refine xcall 10 [.ref 66] [.ref 66] hH2 ⟨u318, _, rfl⟩ rfl rfl rfl rfl rfl (k_whole hH2 hP2 (fun z7 hp7 hH7 hP7 F7 h7 => ⟨_, rfl, ?_⟩))
  have G7 := G2.trans (bFr_sub (W1 := wQy) F7 (by decide))
  have e7 : rN hp7 67 0 = rN hp2 67 0 := r_fr F7 rfl
  have t7 : ∀ u v, tT hp7 u v = tT hp2 u v := fun u v => r_fr F7 rfl
  refine xif_ne 13 ⟨u318, _, rfl⟩ rfl (fun c10 => ?_) (fun c10 => ?_)
  · obtain hW : Wh hp7 := by rcases h7 with g | g <;> first | exact g.2 | (exfalso; omega)
    refine xcst 18 (0) ⟨u318, _, rfl⟩ rfl (by decide) (fun z17 h17 => ?_)
    refine xcst 19 (1) ⟨u318, _, rfl⟩ rfl (by decide) (fun z18 h18 => ?_)
    refine xcall 22 [.ref 66, .int _, .int _] [] hH7 ⟨u318, _, rfl⟩ rfl rfl rfl rfl rfl (k_fails2 hH7 hP7 (by omega) (fun hp19 hH19 hP19 F19 => ⟨_, rfl, ?_⟩))
    have G19 := G7.trans (bFr_sub (W1 := wQy) F19 (by decide))
    have e19 : rN hp19 67 0 = rN hp7 67 0 := r_fr F19 rfl
    have t19 : ∀ u v, tT hp19 u v = tT hp7 u v := fun u v => r_fr F19 rfl
    refine xif_eq 25 ⟨u318, _, rfl⟩ rfl (fun c22 => ?_) (fun c22 => ?_)
    · refine xcst 28 (0) ⟨u318, _, rfl⟩ rfl (by decide) (fun z27 h27 => ?_)
      refine xist 29 ⟨u318, _, rfl⟩ rfl rfl ?_
      refine xcst 30 (0) ⟨u318, _, rfl⟩ rfl (by decide) (fun z29 h29 => ?_)
      refine xist 31 ⟨u318, _, rfl⟩ rfl rfl ?_
      refine xpad 2 ?_
      exact l318x hH19 hP19 (Wh_W (fun i => r_fr F19 rfl) hW) (fun r => ⟨⟨r, rfl⟩, hH19, hP19, G19⟩) 15 _ _ _ _ (by omega) (by omega)
    · refine xcst 26 (0) ⟨u318, _, rfl⟩ rfl (by decide) (fun z25 h25 => ?_)
      exact xret ⟨u318, _, rfl⟩ rfl ⟨⟨_, rfl⟩, hH19, hP19, G19⟩
  · refine xcst 14 (1) ⟨u318, _, rfl⟩ rfl (by decide) (fun z13 h13 => ?_)
    refine xgoto ⟨u318, _, rfl⟩ ?_
    refine xcst 19 (1) ⟨u318, _, rfl⟩ rfl (by decide) (fun z18 h18 => ?_)
    refine xcall 22 [.ref 66, .int _, .int _] [] hH7 ⟨u318, _, rfl⟩ rfl rfl rfl rfl rfl (k_fails2 hH7 hP7 (by omega) (fun hp19 hH19 hP19 F19 => ⟨_, rfl, ?_⟩))
    have G19 := G7.trans (bFr_sub (W1 := wQy) F19 (by decide))
    refine xif_eq 25 ⟨u318, _, rfl⟩ rfl (fun c22 => absurd c22 (by omega)) (fun c22 => ?_)
    refine xcst 26 (0) ⟨u318, _, rfl⟩ rfl (by decide) (fun z25 h25 => ?_)
    exact xret ⟨u318, _, rfl⟩ rfl ⟨⟨_, rfl⟩, hH19, hP19, G19⟩
theorem p320_sQ : bSem amGG P0 84 bTT 320 (sPubQ 0 10) := by
  refine pub0Q (N := am_m320) rfl (fun hp hH hP => ?_)
  refine xin (M := am_m320) rfl rfl rfl ?_
  have G := bFr.refl wQy hp
  have q1 := hP.1.1
  have q2 := hP.1.2.1
  refine xald 1 ⟨u320, _, rfl⟩ rfl rfl ?_
  refine xcst 2 (0) ⟨u320, _, rfl⟩ rfl (by decide) (fun z1 h1 => ?_)
  refine xputI 5 hH ⟨u320, _, rfl⟩ rfl rfl ⟨rfl, rfl⟩ (by omega) (by omega) (fun hp2 hH2 U2 => ?_)
  have G2 := G.trans (rU_fr U2 (W := wQy) (by decide))
  have hP2 := P0_W (W := [(66, 7)]) (by decide) (rU_fr U2 rfl) hP
  have e2 : rN hp2 67 0 = rN hp 67 0 := rU_ne U2 (by first | decide | exact (fun z => absurd z.1 (by decide)) | omega)
  refine xald 6 ⟨u320, _, rfl⟩ rfl rfl ?_
  refine xald 7 ⟨u320, _, rfl⟩ rfl rfl ?_
  refine xcall 10 [.ref 66] [.ref 66] hH2 ⟨u320, _, rfl⟩ rfl rfl rfl rfl rfl (k_whole hH2 hP2 (fun z7 hp7 hH7 hP7 F7 h7 => ⟨_, rfl, ?_⟩))
  have G7 := G2.trans (bFr_sub (W1 := wQy) F7 (by decide))
  have e7 : rN hp7 67 0 = rN hp2 67 0 := r_fr F7 rfl
  have t7 : ∀ u v, tT hp7 u v = tT hp2 u v := fun u v => r_fr F7 rfl
  refine xif_ne 13 ⟨u320, _, rfl⟩ rfl (fun c10 => ?_) (fun c10 => ?_)
  · obtain hW : Wh hp7 := by rcases h7 with g | g <;> first | exact g.2 | (exfalso; omega)
    refine xcst 18 (0) ⟨u320, _, rfl⟩ rfl (by decide) (fun z17 h17 => ?_)
    refine xcst 19 (1) ⟨u320, _, rfl⟩ rfl (by decide) (fun z18 h18 => ?_)
    refine xcall 22 [.ref 66, .int _, .int _] [] hH7 ⟨u320, _, rfl⟩ rfl rfl rfl rfl rfl (k_fails2 hH7 hP7 (by omega) (fun hp19 hH19 hP19 F19 => ⟨_, rfl, ?_⟩))
    have G19 := G7.trans (bFr_sub (W1 := wQy) F19 (by decide))
    have e19 : rN hp19 67 0 = rN hp7 67 0 := r_fr F19 rfl
    have t19 : ∀ u v, tT hp19 u v = tT hp7 u v := fun u v => r_fr F19 rfl
    refine xif_eq 25 ⟨u320, _, rfl⟩ rfl (fun c22 => ?_) (fun c22 => ?_)
    · refine xcst 28 (0) ⟨u320, _, rfl⟩ rfl (by decide) (fun z27 h27 => ?_)
      refine xist 29 ⟨u320, _, rfl⟩ rfl rfl ?_
      refine xcst 30 (0) ⟨u320, _, rfl⟩ rfl (by decide) (fun z29 h29 => ?_)
      refine xist 31 ⟨u320, _, rfl⟩ rfl rfl ?_
      refine xpad 2 ?_
      exact l320x hH19 hP19 (Wh_W (fun i => r_fr F19 rfl) hW) (fun r => ⟨⟨r, rfl⟩, hH19, hP19, G19⟩) 15 _ _ _ _ (by omega) (by omega)
    · refine xcst 26 (0) ⟨u320, _, rfl⟩ rfl (by decide) (fun z25 h25 => ?_)
      exact xret ⟨u320, _, rfl⟩ rfl ⟨⟨_, rfl⟩, hH19, hP19, G19⟩
  · refine xcst 14 (1) ⟨u320, _, rfl⟩ rfl (by decide) (fun z13 h13 => ?_)
    refine xgoto ⟨u320, _, rfl⟩ ?_
    refine xcst 19 (1) ⟨u320, _, rfl⟩ rfl (by decide) (fun z18 h18 => ?_)
    refine xcall 22 [.ref 66, .int _, .int _] [] hH7 ⟨u320, _, rfl⟩ rfl rfl rfl rfl rfl (k_fails2 hH7 hP7 (by omega) (fun hp19 hH19 hP19 F19 => ⟨_, rfl, ?_⟩))
    have G19 := G7.trans (bFr_sub (W1 := wQy) F19 (by decide))
    refine xif_eq 25 ⟨u320, _, rfl⟩ rfl (fun c22 => absurd c22 (by omega)) (fun c22 => ?_)
    refine xcst 26 (0) ⟨u320, _, rfl⟩ rfl (by decide) (fun z25 h25 => ?_)
    exact xret ⟨u320, _, rfl⟩ rfl ⟨⟨_, rfl⟩, hH19, hP19, G19⟩
theorem p322_sQ : bSem amGG P0 84 bTT 322 (sPubQ 0 9) := by
  refine pub0Q (N := am_m322) rfl (fun hp hH hP => ?_)
  refine xin (M := am_m322) rfl rfl rfl ?_
  have G := bFr.refl wQy hp
  have q1 := hP.1.1
  have q2 := hP.1.2.1
  refine xald 1 ⟨u322, _, rfl⟩ rfl rfl ?_
  refine xcst 2 (0) ⟨u322, _, rfl⟩ rfl (by decide) (fun z1 h1 => ?_)
  refine xputI 5 hH ⟨u322, _, rfl⟩ rfl rfl ⟨rfl, rfl⟩ (by omega) (by omega) (fun hp2 hH2 U2 => ?_)
  have G2 := G.trans (rU_fr U2 (W := wQy) (by decide))
  have hP2 := P0_W (W := [(66, 7)]) (by decide) (rU_fr U2 rfl) hP
  have e2 : rN hp2 67 0 = rN hp 67 0 := rU_ne U2 (by first | decide | exact (fun z => absurd z.1 (by decide)) | omega)
  refine xald 6 ⟨u322, _, rfl⟩ rfl rfl ?_
  refine xcall 9 [.ref 66] [] hH2 ⟨u322, _, rfl⟩ rfl rfl rfl rfl rfl (k_least hH2 hP2 (fun z6 hp6 m A hH6 hP6 F6 hA hS h6 g6 => ⟨_, rfl, ?_⟩))
  have G6 := G2.trans (bFr_sub (W1 := wQy) F6 (by decide))
  have e6 : rN hp6 67 0 = rN hp2 67 0 := r_fr F6 rfl
  have t6 : ∀ u v, tT hp6 u v = tT hp2 u v := fun u v => r_fr F6 rfl
  exact xret ⟨u322, _, rfl⟩ rfl ⟨⟨_, rfl⟩, hH6, hP6, G6⟩
theorem l323Q {hp0 : amH} {k : Int32} {m : Nat} {A : Nat → Nat × Nat × Nat} (k0 : 0 ≤ k.toInt) :
    ∀ (j : Nat) (n t : Int32) (hp : amH), bHk 84 bTT hp → P0 hp → bFr wQy hp0 hp → Arr hp m A → Sys (tT hp) (rN hp 67 0) m A → k.toInt < rN hp 67 0 → t.toInt + (j : Int) = 36 → 0 ≤ t.toInt → xV 9 am_m323 19 [some (.ref 66), some (.int k), some (.int n), some (.int t)] [] hp (rPubQ hp0) := by
  intro j
  induction j using Nat.strongRecOn with
  | ind j ih =>
    intro n t hp hH hP hF hA hS hk hj t0
    have am := hA.1
    have m35 := hS.1
    refine xild 20 ⟨u323, _, rfl⟩ rfl rfl ?_
    refine xald 21 ⟨u323, _, rfl⟩ rfl rfl ?_
    refine xgetI 24 hH ⟨u323, _, rfl⟩ rfl rfl (fun z21 h21 => ?_)
    refine xcmp_ge 27 ⟨u323, _, rfl⟩ rfl (fun c24 => ?_) (fun c24 => ?_)
    · refine xild 51 ⟨u323, _, rfl⟩ rfl rfl ?_
      exact xret ⟨u323, _, rfl⟩ rfl ⟨⟨_, rfl⟩, hH, hP, hF⟩
    · refine xild 28 ⟨u323, _, rfl⟩ rfl rfl ?_
      refine xald 29 ⟨u323, _, rfl⟩ rfl rfl ?_
      refine xild 30 ⟨u323, _, rfl⟩ rfl rfl ?_
      refine xild 31 ⟨u323, _, rfl⟩ rfl rfl ?_
      refine xcall 34 [.ref 66, .int _, .int _] [.int _] hH ⟨u323, _, rfl⟩ rfl rfl rfl rfl rfl (k_loo hH hP hA hS (by omega) (by omega) (by omega) (by omega) (fun z31 hp31 h31 KK31 => ⟨_, rfl, ?_⟩))
      have hee : rN hp31 67 0 = rN hp 67 0 := r_fr KK31.2.2 rfl
      refine xif_eq 37 ⟨u323, _, rfl⟩ rfl (fun c34 => ?_) (fun c34 => ?_)
      · refine xcst 42 (0) ⟨u323, _, rfl⟩ rfl (by decide) (fun z41 h41 => ?_)
        refine xaddw 43 ⟨u323, _, rfl⟩ rfl (fun z42 => ?_)
        refine xist 44 ⟨u323, _, rfl⟩ rfl rfl ?_
        refine xinc 47 (1) ⟨u323, _, rfl⟩ rfl rfl rfl (by decide) (by omega) (by omega) (fun z44 h44 => ?_)
        refine xgoto ⟨u323, _, rfl⟩ ?_
        exact ih (j - 1) (by omega) _ _ _ KK31.1 KK31.2.1 (hF.trans (bFr_sub KK31.2.2 (by decide))) (Arr_W (W := []) (by decide) KK31.2.2 hA) (Sys_e KK31.2.2 hS) (by rw [hee]; omega) (by omega) (by omega)
      · refine xcst 38 (1) ⟨u323, _, rfl⟩ rfl (by decide) (fun z37 h37 => ?_)
        refine xgoto ⟨u323, _, rfl⟩ ?_
        refine xaddw 43 ⟨u323, _, rfl⟩ rfl (fun z42 => ?_)
        refine xist 44 ⟨u323, _, rfl⟩ rfl rfl ?_
        refine xinc 47 (1) ⟨u323, _, rfl⟩ rfl rfl rfl (by decide) (by omega) (by omega) (fun z44 h44 => ?_)
        refine xgoto ⟨u323, _, rfl⟩ ?_
        exact ih (j - 1) (by omega) _ _ _ KK31.1 KK31.2.1 (hF.trans (bFr_sub KK31.2.2 (by decide))) (Arr_W (W := []) (by decide) KK31.2.2 hA) (Sys_e KK31.2.2 hS) (by rw [hee]; omega) (by omega) (by omega)
theorem p323_sQ : bSem amGG P0 84 bTT 323 (sPubQ 0 9) := by
  refine pub0Q (N := am_m323) rfl (fun hp hH hP => ?_)
  refine xin (M := am_m323) rfl rfl rfl ?_
  have G := bFr.refl wQy hp
  have q1 := hP.1.1
  have q2 := hP.1.2.1
  refine xald 1 ⟨u323, _, rfl⟩ rfl rfl ?_
  refine xcst 2 (0) ⟨u323, _, rfl⟩ rfl (by decide) (fun z1 h1 => ?_)
  refine xputI 5 hH ⟨u323, _, rfl⟩ rfl rfl ⟨rfl, rfl⟩ (by omega) (by omega) (fun hp2 hH2 U2 => ?_)
  have G2 := G.trans (rU_fr U2 (W := wQy) (by decide))
  have hP2 := P0_W (W := [(66, 7)]) (by decide) (rU_fr U2 rfl) hP
  have e2 : rN hp2 67 0 = rN hp 67 0 := rU_ne U2 (by first | decide | exact (fun z => absurd z.1 (by decide)) | omega)
  refine xald 6 ⟨u323, _, rfl⟩ rfl rfl ?_
  refine xcall 9 [.ref 66] [] hH2 ⟨u323, _, rfl⟩ rfl rfl rfl rfl rfl (k_least hH2 hP2 (fun z6 hp6 m A hH6 hP6 F6 hA hS h6 g6 => ⟨_, rfl, ?_⟩))
  have G6 := G2.trans (bFr_sub (W1 := wQy) F6 (by decide))
  have e6 : rN hp6 67 0 = rN hp2 67 0 := r_fr F6 rfl
  have t6 : ∀ u v, tT hp6 u v = tT hp2 u v := fun u v => r_fr F6 rfl
  refine xald 10 ⟨u323, _, rfl⟩ rfl rfl ?_
  refine xcall 13 [.ref 66] [.int _] hH6 ⟨u323, _, rfl⟩ rfl rfl rfl rfl rfl (k_points hH6 (fun z10 h10 => ⟨_, rfl, ?_⟩))
  refine xrem 14 (z6.toInt % rN hp6 67 0) ⟨u323, _, rfl⟩ rfl (by omega) (by omega) (by rw [h10]) (fun z13 h13 => ?_)
  have k1 := Int.emod_nonneg z6.toInt (b := rN hp6 67 0) (by omega)
  have k2 := Int.emod_lt_of_pos z6.toInt (b := rN hp6 67 0) (by omega)
  refine xist 15 ⟨u323, _, rfl⟩ rfl rfl ?_
  refine xcst 16 (0) ⟨u323, _, rfl⟩ rfl (by decide) (fun z15 h15 => ?_)
  refine xist 17 ⟨u323, _, rfl⟩ rfl rfl ?_
  refine xcst 18 (0) ⟨u323, _, rfl⟩ rfl (by decide) (fun z17 h17 => ?_)
  refine xist 19 ⟨u323, _, rfl⟩ rfl rfl ?_
  exact l323Q (by omega) 36 _ _ _ hH6 hP6 G6 hA hS (by omega) (by omega) (by omega)
theorem p327_sQ : bSem amGG P0 84 bTT 327 (sPubQ 1 20) := by
  refine pub1Q (N := am_m327) rfl (fun x hp hH hP => ?_)
  refine xin (M := am_m327) rfl rfl rfl ?_
  have G := bFr.refl wQy hp
  have q1 := hP.1.1
  have q2 := hP.1.2.1
  have j19 : ∀ hp1, bHk 84 bTT hp1 → P0 hp1 → bFr wQy hp hp1 → xV 20 am_m327 19 [some (.ref 66), some (.int x)] [.ref 66] hp1 (rPubQ hp) := by
    intro hp1 hH1 hP1 G1
    refine xcst 20 (1) ⟨u327, _, rfl⟩ rfl (by decide) (fun z13 h13 => ?_)
    refine xgoto ⟨u327, _, rfl⟩ ?_
    refine xcst 25 (1) ⟨u327, _, rfl⟩ rfl (by decide) (fun z18 h18 => ?_)
    refine xcall 28 [.ref 66, .int _, .int _] [] hH1 ⟨u327, _, rfl⟩ rfl rfl rfl rfl rfl (k_fails2 hH1 hP1 (by omega) (fun hp19 hH19 hP19 F19 => ⟨_, rfl, ?_⟩))
    have G19 := G1.trans (bFr_sub (W1 := wQy) F19 (by decide))
    refine xif_eq 31 ⟨u327, _, rfl⟩ rfl (fun c22 => absurd c22 (by omega)) (fun c22 => ?_)
    refine xcst 32 (0) ⟨u327, _, rfl⟩ rfl (by decide) (fun z25 h25 => ?_)
    refine xgoto ⟨u327, _, rfl⟩ ?_
    exact xret ⟨u327, _, rfl⟩ rfl ⟨⟨_, rfl⟩, hH19, hP19, G19⟩
  refine xald 1 ⟨u327, _, rfl⟩ rfl rfl ?_
  refine xcst 2 (0) ⟨u327, _, rfl⟩ rfl (by decide) (fun z1 h1 => ?_)
  refine xputI 5 hH ⟨u327, _, rfl⟩ rfl rfl ⟨rfl, rfl⟩ (by omega) (by omega) (fun hp2 hH2 U2 => ?_)
  have G2 := G.trans (rU_fr U2 (W := wQy) (by decide))
  have hP2 := P0_W (W := [(66, 7)]) (by decide) (rU_fr U2 rfl) hP
  have e2 : rN hp2 67 0 = rN hp 67 0 := rU_ne U2 (by first | decide | exact (fun z => absurd z.1 (by decide)) | omega)
  refine xald 6 ⟨u327, _, rfl⟩ rfl rfl ?_
  refine xild 7 ⟨u327, _, rfl⟩ rfl rfl ?_
  refine xif_lt 10 ⟨u327, _, rfl⟩ rfl (fun c7 => ?_) (fun c7 => ?_)
  · exact j19 _ hH2 hP2 G2
  · refine xild 11 ⟨u327, _, rfl⟩ rfl rfl ?_
    refine xald 12 ⟨u327, _, rfl⟩ rfl rfl ?_
    refine xcall 15 [.ref 66] [.int _, .ref 66] hH2 ⟨u327, _, rfl⟩ rfl rfl rfl rfl rfl (k_points hH2 (fun z12 h12 => ⟨_, rfl, ?_⟩))
    refine xshr 16 ⟨u327, _, rfl⟩ rfl ?_
    refine xif_eq 19 ⟨u327, _, rfl⟩ rfl (fun c16 => ?_) (fun c16 => ?_)
    · have hsh := i_shrG (x := x) (c := z12) (a := x.toInt.toNat) (n := (rN hp2 67 0).toNat) (by omega) (by omega) (by omega)
      have hx15 : x.toInt.toNat < 32768 := by
        have e1 : x.toInt.toNat >>> (rN hp2 67 0).toNat = 0 := by omega
        rw [Nat.shiftRight_eq_div_pow] at e1
        have e2 := Nat.lt_of_div_eq_zero (Nat.two_pow_pos _) e1
        have e3 : 2 ^ (rN hp2 67 0).toNat ≤ 2 ^ 15 := Nat.pow_le_pow_right (by decide) (by omega)
        omega
      refine xcst 24 (0) ⟨u327, _, rfl⟩ rfl (by decide) (fun z23 h23 => ?_)
      refine xcst 25 (1) ⟨u327, _, rfl⟩ rfl (by decide) (fun z24 h24 => ?_)
      refine xcall 28 [.ref 66, .int _, .int _] [] hH2 ⟨u327, _, rfl⟩ rfl rfl rfl rfl rfl (k_fails2 hH2 hP2 (by omega) (fun hp25 hH25 hP25 F25 => ⟨_, rfl, ?_⟩))
      have G25 := G2.trans (bFr_sub (W1 := wQy) F25 (by decide))
      have e25 : rN hp25 67 0 = rN hp2 67 0 := r_fr F25 rfl
      have t25 : ∀ u v, tT hp25 u v = tT hp2 u v := fun u v => r_fr F25 rfl
      refine xif_eq 31 ⟨u327, _, rfl⟩ rfl (fun c28 => ?_) (fun c28 => ?_)
      · refine xald 36 ⟨u327, _, rfl⟩ rfl rfl ?_
        refine xild 37 ⟨u327, _, rfl⟩ rfl rfl ?_
        refine xcall 40 [.ref 66, .int _] [] hH25 ⟨u327, _, rfl⟩ rfl rfl rfl rfl rfl (k_clo hH25 hP25 18 (ss := x.toInt.toNat) (by omega) hx15 (Nat.le_trans (mb_le _) (by decide)) (fun z37 => ⟨_, rfl, ?_⟩))
        exact xret ⟨u327, _, rfl⟩ rfl ⟨⟨_, rfl⟩, hH25, hP25, G25⟩
      · refine xcst 32 (0) ⟨u327, _, rfl⟩ rfl (by decide) (fun z31 h31 => ?_)
        refine xgoto ⟨u327, _, rfl⟩ ?_
        exact xret ⟨u327, _, rfl⟩ rfl ⟨⟨_, rfl⟩, hH25, hP25, G25⟩
    · exact j19 _ hH2 hP2 G2
theorem l337Q {hp0 : amH} {x : Int32} {T : Nat → Nat → Int} {q : Int} {m : Nat} {A : Nat → Nat × Nat × Nat} (q15 : q ≤ 15) (hS : Sys T q m A) (x0 : 0 ≤ x.toInt) (x1 : x.toInt < 15) :
    ∀ (j : Nat) (t : Int32) (hp : amH), bHk 84 bTT hp → P0 hp → bFr wQy hp0 hp → Arr hp m A → ∀ c : Nat, t.toInt + (j : Int) = 36 → 0 ≤ t.toInt → Ptc A x.toInt.toNat t.toInt.toNat c → ((c = 0 ∧ rN hp 66 32 = 0) ∨ (1 ≤ c ∧ rN hp 66 32 = 4 * (c : Int) - 1)) → xV 9 am_m337 21 [some (.ref 66), some (.int x), some (.int t)] [] hp (rPubQ hp0) := by
  intro j
  induction j using Nat.strongRecOn with
  | ind j ih =>
    intro t hp hH hP hF hA c hj t0 hc ho
    have am := hA.1
    have m35 := hS.1
    have j58 : t.toInt < (m : Int) → (x.toInt.toNat = (A t.toInt.toNat).1 ∨ x.toInt.toNat = (A t.toInt.toNat).2.1 ∨ x.toInt.toNat = (A t.toInt.toNat).2.2) → ∀ (o1 : Nat) (hp1 : amH), bHk 84 bTT hp1 → P0 hp1 → bFr wQy hp0 hp1 → Arr hp1 m A → o1 = 4 * c → rN hp1 66 32 = (o1 : Int) → xV 9 am_m337 58 [some (.ref 66), some (.int x), some (.int t)] [] hp1 (rPubQ hp0) := by
      intro ht hpt o1 hp1 hH1 hP1 hF1 hA1 ho2 ho1
      have hc2 := Ptc_s q15 hS (t := t.toInt.toNat) (by omega) hc hpt
      have h7 := Ptc_7 hc2
      obtain ⟨a1, a2, a3, a4⟩ := hA1.2 t.toInt.toNat (by omega)
      have hs3 := hS.2.1 t.toInt.toNat (by omega)
      refine xald 59 ⟨u337, _, rfl⟩ rfl rfl ?_
      refine xald 60 ⟨u337, _, rfl⟩ rfl rfl ?_
      refine xgetR 63 72 hH1 ⟨u337, _, rfl⟩ rfl rfl ?_
      refine xild 64 ⟨u337, _, rfl⟩ rfl rfl ?_
      refine xiald 65 (t).toInt.toNat hH1 ⟨u337, _, rfl⟩ rfl (by decide) rfl (by omega) (by omega) (fun z64 h64 => ?_)
      refine xcall 68 [.ref 66, .int _] [] hH1 ⟨u337, _, rfl⟩ rfl rfl rfl rfl rfl (k_wp hH1 hP1 (o := o1) ho1 (by omega) (by omega) (by omega) (fun hp65 hH65 hP65 F65 O65 => ⟨_, rfl, ?_⟩))
      refine xald 69 ⟨u337, _, rfl⟩ rfl rfl ?_
      refine xald 70 ⟨u337, _, rfl⟩ rfl rfl ?_
      refine xgetR 73 73 hH65 ⟨u337, _, rfl⟩ rfl rfl ?_
      refine xild 74 ⟨u337, _, rfl⟩ rfl rfl ?_
      have hA65 := Arr_W (W := wOut) (by decide) F65 hA1
      obtain ⟨a1, a2, a3, a4⟩ := hA65.2 t.toInt.toNat (by omega)
      refine xiald 75 (t).toInt.toNat hH65 ⟨u337, _, rfl⟩ rfl (by decide) rfl (by omega) (by omega) (fun z74 h74 => ?_)
      refine xcall 78 [.ref 66, .int _] [] hH65 ⟨u337, _, rfl⟩ rfl rfl rfl rfl rfl (k_wp hH65 hP65 (o := (o1 + 1)) O65 (by omega) (by omega) (by omega) (fun hp75 hH75 hP75 F75 O75 => ⟨_, rfl, ?_⟩))
      refine xald 79 ⟨u337, _, rfl⟩ rfl rfl ?_
      refine xald 80 ⟨u337, _, rfl⟩ rfl rfl ?_
      refine xgetR 83 74 hH75 ⟨u337, _, rfl⟩ rfl rfl ?_
      refine xild 84 ⟨u337, _, rfl⟩ rfl rfl ?_
      have hA75 := Arr_W (W := wOut) (by decide) F75 hA65
      obtain ⟨a1, a2, a3, a4⟩ := hA75.2 t.toInt.toNat (by omega)
      refine xiald 85 (t).toInt.toNat hH75 ⟨u337, _, rfl⟩ rfl (by decide) rfl (by omega) (by omega) (fun z84 h84 => ?_)
      refine xcall 88 [.ref 66, .int _] [] hH75 ⟨u337, _, rfl⟩ rfl rfl rfl rfl rfl (k_wp hH75 hP75 (o := (o1 + 1 + 1)) O75 (by omega) (by omega) (by omega) (fun hp85 hH85 hP85 F85 O85 => ⟨_, rfl, ?_⟩))
      refine xinc 91 (1) ⟨u337, _, rfl⟩ rfl rfl rfl (by decide) (by omega) (by omega) (fun z88 h88 => ?_)
      refine xgoto ⟨u337, _, rfl⟩ ?_
      refine ih (j - 1) (by omega) _ hp85 hH85 hP85 (hF1.trans ((bFr_sub F65 (by decide)).trans ((bFr_sub F75 (by decide)).trans (bFr_sub F85 (by decide))))) (Arr_W (W := wOut) (by decide) F85 (Arr_W (W := wOut) (by decide) F75 (Arr_W (W := wOut) (by decide) F65 hA1))) (c + 1) (by omega) (by omega) ?_ (Or.inr ⟨by omega, by rw [O85]; omega⟩)
      rw [show z88.toInt.toNat = t.toInt.toNat + 1 by omega]
      exact hc2
    refine xild 22 ⟨u337, _, rfl⟩ rfl rfl ?_
    refine xald 23 ⟨u337, _, rfl⟩ rfl rfl ?_
    refine xgetI 26 hH ⟨u337, _, rfl⟩ rfl rfl (fun z23 h23 => ?_)
    refine xcmp_ge 29 ⟨u337, _, rfl⟩ rfl (fun c26 => ?_) (fun c26 => ?_)
    · refine xald 95 ⟨u337, _, rfl⟩ rfl rfl ?_
      refine xgetI 98 hH ⟨u337, _, rfl⟩ rfl rfl (fun z95 h95 => ?_)
      exact xret ⟨u337, _, rfl⟩ rfl ⟨⟨_, rfl⟩, hH, hP, hF⟩
    · refine xald 30 ⟨u337, _, rfl⟩ rfl rfl ?_
      refine xgetR 33 75 hH ⟨u337, _, rfl⟩ rfl rfl ?_
      refine xild 34 ⟨u337, _, rfl⟩ rfl rfl ?_
      refine xiald 35 (t).toInt.toNat hH ⟨u337, _, rfl⟩ rfl (by decide) rfl (by omega) (by omega) (fun z34 h34 => ?_)
      refine xild 36 ⟨u337, _, rfl⟩ rfl rfl ?_
      refine xshr 37 ⟨u337, _, rfl⟩ rfl ?_
      refine xcst 38 (1) ⟨u337, _, rfl⟩ rfl (by decide) (fun z37 h37 => ?_)
      refine xand 39 ⟨u337, _, rfl⟩ rfl ?_
      obtain ⟨a1, a2, a3, a4⟩ := hA.2 t.toInt.toNat (by omega)
      have hs3 := hS.2.1 t.toInt.toNat (by omega)
      have hb := msk_b3 ⟨(A t.toInt.toNat).1, by omega⟩ ⟨(A t.toInt.toNat).2.1, by omega⟩ ⟨(A t.toInt.toNat).2.2, by omega⟩ hs3.1 hs3.2.1
      have hbit := i_bit (x := z34) (c := x) (o := z37) (a := 2 ^ (A t.toInt.toNat).1 + 2 ^ (A t.toInt.toNat).2.1 + 2 ^ (A t.toInt.toNat).2.2) (n := x.toInt.toNat) (h34.trans a4) (by have := hb.2.2; unfold b3 at this; dsimp only at this; omega) (by omega) (by omega) h37
      have hbb := b3_bit ⟨(A t.toInt.toNat).1, by omega⟩ ⟨(A t.toInt.toNat).2.1, by omega⟩ ⟨(A t.toInt.toNat).2.2, by omega⟩ ⟨x.toInt.toNat, by omega⟩ hs3.1 hs3.2.1
      dsimp only at hbb
      rw [hbb] at hbit
      have h7 := Ptc_7 hc
      refine xif_ne 42 ⟨u337, _, rfl⟩ rfl (fun c39 => ?_) (fun c39 => ?_)
      · have hpt : x.toInt.toNat = (A t.toInt.toNat).1 ∨ x.toInt.toNat = (A t.toInt.toNat).2.1 ∨ x.toInt.toNat = (A t.toInt.toNat).2.2 := by
          refine Classical.byContradiction (fun hn => c39 ?_)
          rw [hbit, if_neg]
          simp only [Bool.or_eq_true, beq_iff_eq, Fin.mk.injEq]
          omega
        refine xald 46 ⟨u337, _, rfl⟩ rfl rfl ?_
        refine xgetI 49 hH ⟨u337, _, rfl⟩ rfl rfl (fun z46 h46 => ?_)
        refine xif_le 52 ⟨u337, _, rfl⟩ rfl (fun c49 => ?_) (fun c49 => ?_)
        · exact j58 (by omega) hpt (4 * c) hp hH hP hF hA (by omega) (by omega)
        · refine xald 53 ⟨u337, _, rfl⟩ rfl rfl ?_
          refine xbip 55 (32) ⟨u337, _, rfl⟩ rfl (by decide) (fun z53 h53 => ?_)
          refine xcall 58 [.ref 66, .int _] [] hH ⟨u337, _, rfl⟩ rfl rfl rfl rfl rfl (k_write hH hP (o := 4 * c - 1) (by omega) (by omega) (fun hp55 hH55 hP55 F55 O55 => ⟨_, rfl, ?_⟩))
          exact j58 (by omega) hpt (4 * c) hp55 hH55 hP55 (hF.trans (bFr_sub F55 (by decide))) (Arr_W (W := wOut) (by decide) F55 hA) (by omega) (by rw [O55]; omega)
      · refine xgoto ⟨u337, _, rfl⟩ ?_
        refine xinc 91 (1) ⟨u337, _, rfl⟩ rfl rfl rfl (by decide) (by omega) (by omega) (fun z88 h88 => ?_)
        refine xgoto ⟨u337, _, rfl⟩ ?_
        refine ih (j - 1) (by omega) _ hp hH hP hF hA c (by omega) (by omega) ?_ ho
        rw [show z88.toInt.toNat = t.toInt.toNat + 1 by omega]
        exact Ptc_n hc
theorem p337_sQ : bSem amGG P0 84 bTT 337 (sPubQ 1 9) := by
  refine pub1Q (N := am_m337) rfl (fun x hp hH hP => ?_)
  refine xin (M := am_m337) rfl rfl rfl ?_
  have G := bFr.refl wQy hp
  have q1 := hP.1.1
  have q2 := hP.1.2.1
  refine xald 1 ⟨u337, _, rfl⟩ rfl rfl ?_
  refine xild 2 ⟨u337, _, rfl⟩ rfl rfl ?_
  refine xcall 5 [.ref 66, .int _] [] hH ⟨u337, _, rfl⟩ rfl rfl rfl rfl rfl (k_nopt hH hP (fun z2 hp2 hH2 hP2 F2 h2 => ⟨_, rfl, ?_⟩))
  have G2 := G.trans (bFr_sub (W1 := wQy) F2 (by decide))
  have e2 : rN hp2 67 0 = rN hp 67 0 := r_fr F2 rfl
  have t2 : ∀ u v, tT hp2 u v = tT hp u v := fun u v => r_fr F2 rfl
  refine xif_eq 8 ⟨u337, _, rfl⟩ rfl (fun c5 => ?_) (fun c5 => ?_)
  · refine xald 11 ⟨u337, _, rfl⟩ rfl rfl ?_
    refine xcall 14 [.ref 66] [] hH2 ⟨u337, _, rfl⟩ rfl rfl rfl rfl rfl (k_lst hH2 hP2 (fun hp11 m hH11 hP11 F11 hL11 => ⟨_, rfl, ?_⟩))
    have G11 := G2.trans (bFr_sub (W1 := wQy) F11 (by decide))
    obtain ⟨A, hA, hS⟩ := Lst_A hP11.1 hL11
    have e11 : rN hp11 67 0 = rN hp2 67 0 := r_fr F11 rfl
    have t11 : ∀ u v, tT hp11 u v = tT hp2 u v := fun u v => r_fr F11 rfl
    refine xald 15 ⟨u337, _, rfl⟩ rfl rfl ?_
    refine xcst 16 (0) ⟨u337, _, rfl⟩ rfl (by decide) (fun z15 h15 => ?_)
    refine xputI 19 hH11 ⟨u337, _, rfl⟩ rfl rfl ⟨rfl, rfl⟩ (by omega) (by omega) (fun hp16 hH16 U16 => ?_)
    have G16 := G11.trans (rU_fr U16 (W := wQy) (by decide))
    have hP16 := P0_W (W := [(66, 32)]) (by decide) (rU_fr U16 rfl) hP11
    have e16 : rN hp16 67 0 = rN hp11 67 0 := rU_ne U16 (by first | decide | exact (fun z => absurd z.1 (by decide)) | omega)
    refine xcst 20 (0) ⟨u337, _, rfl⟩ rfl (by decide) (fun z19 h19 => ?_)
    refine xist 21 ⟨u337, _, rfl⟩ rfl rfl ?_
    exact l337Q (q := rN hp11 67 0) (by omega) hS (by omega) (by omega) 36 _ hp16 hH16 hP16 G16 (Arr_W (W := [(66, 32)]) (by decide) (rU_fr U16 rfl) hA) 0 (by omega) (by omega) ⟨[], List.nodup_nil, (fun w hw => by cases hw), rfl⟩ (Or.inl ⟨rfl, by rw [U16.1]; omega⟩)
  · refine xcst 9 (0) ⟨u337, _, rfl⟩ rfl (by decide) (fun z8 h8 => ?_)
    exact xret ⟨u337, _, rfl⟩ rfl ⟨⟨_, rfl⟩, hH2, hP2, G2⟩
end
/-! ##### 19.m.105.42g ##### -/
section
/-! ===== the reference's completions keep the state ===== -/
theorem rowOk_eqJ {r r1 : Nat → Int} {q : sR} (h : rowOk r q) (e : ∀ i, i < 229 → r1 i = r i) : rowOk r1 q := ⟨(e 0 (by omega)).trans h.1, h.2.1, fun u v hu hv => (e _ (by omega)).trans (h.2.2.1 u v hu hv), h.2.2.2.1, fun i hi => (e _ (by omega)).trans (h.2.2.2.2 i hi)⟩
theorem rfS_rest {hp hp1 : amH} {q : sR} {n : Nat} {h : Nat → sR} {sv : Option sR} (hS : rfS hp q n h sv) (F : bFr [(67, 999)] hp hp1) (E : ∀ i, i < 229 → rN hp1 67 i = rN hp 67 i) : rfS hp1 q n h sv := rfS_67 hS F (rowOk_eqJ hS.1 E)
theorem k_285J {n : Nat} {h : Nat → sR} {sv : Option sR} {q : sR} {hp : amH} {R : xQ} (hH : bHk 84 bTT hp) (hP : P0 hp) (hS : rfS hp q n h sv)
    (hR : ∀ (z : Int32) hp1, bHk 84 bTT hp1 → P0 hp1 → bFr wM hp hp1 → rfS hp1 q n h sv → R (.inl (some (.int z))) hp1) : xK 232 285 [.ref 66] hp R := by
  refine xin (M := am_m285) rfl rfl rfl ?_
  have G := bFr.refl wM hp
  refine xald 1 ⟨u285, _, rfl⟩ rfl rfl ?_
  refine xcst 2 (0) ⟨u285, _, rfl⟩ rfl (by decide) (fun z1 h1 => ?_)
  refine xputI 5 hH ⟨u285, _, rfl⟩ rfl rfl ⟨rfl, rfl⟩ (by omega) (by omega) (fun hp2 hH2 U2 => ?_)
  have F2 : bFr [(66, 7)] hp hp2 := rU_fr U2 rfl
  have G2 := G.trans (rU_fr U2 (W := wM) (by decide))
  have hP2 := P0_W (W := [(66, 7)]) (by decide) F2 hP
  have S2 := rfS_W hS F2 (fun _ => rfl) rfl rfl (fun _ => rfl) (fun _ => rfl)
  refine xald 6 ⟨u285, _, rfl⟩ rfl rfl ?_
  refine xcall 9 [.ref 66] [] hH2 ⟨u285, _, rfl⟩ rfl rfl rfl rfl rfl (k_unm hH2 hP2 (fun z6 hp6 hH6 hP6 F6 => ⟨_, rfl, ?_⟩))
  have G6 := G2.trans (bFr_sub (W1 := wM) F6 (by decide))
  have S6 := rfS_W S2 F6 (fun _ => rfl) rfl rfl (fun _ => rfl) (fun _ => rfl)
  refine xbip 11 (30) ⟨u285, _, rfl⟩ rfl (by decide) (fun z9 h9 => ?_)
  refine xcmp_le 14 ⟨u285, _, rfl⟩ rfl (fun c11 => ?_) (fun c11 => ?_)
  · refine xald 20 ⟨u285, _, rfl⟩ rfl rfl ?_
    refine xcall 23 [.ref 66] [] hH6 ⟨u285, _, rfl⟩ rfl rfl rfl rfl rfl (k_comp 225 hH6 hP6 (unc_le _) (fun z20 hp20 hH20 hP20 F20 E20 => ⟨_, rfl, ?_⟩))
    have G20 := G6.trans (bFr_sub (W1 := wM) F20 (by decide))
    exact xret ⟨u285, _, rfl⟩ rfl (hR _ _ hH20 hP20 G20 (rfS_rest S6 F20 E20))
  · refine xbip 16 (-2) ⟨u285, _, rfl⟩ rfl (by decide) (fun z14 h14 => ?_)
    refine xgoto ⟨u285, _, rfl⟩ ?_
    exact xret ⟨u285, _, rfl⟩ rfl (hR _ _ hH6 hP6 G6 S6)
end
