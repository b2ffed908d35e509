/-! ===== ways by hand: swap and turn from outside ===== -/
theorem P0_68 {hp hp1 : amH} (hF : bFr [(68, 999)] hp hp1) (hP : P0 hp) : P0 hp1 := P0_no hP hF (fun z => absurd z (by decide)) (fun z => absurd z (by decide)) (fun z => absurd z (by decide)) (by decide) (by decide)
def swS (a b w : Nat) : Nat := if w = a then b else if w = b then a else w
def tuS (b p w : Nat) : Nat := if w + b < p then w + b else w + b - p
theorem tu_v {b p : Int} {w : Nat} (hb : 0 ≤ b) (hbp : b < p) (hw : (w : Int) < p) : ((tuS b.toNat p.toNat w : Nat) : Int) < p ∧ (((tuS b.toNat p.toNat w : Nat) : Int) = w + b ∨ ((tuS b.toNat p.toNat w : Nat) : Int) = w + b - p) := by
  unfold tuS
  split <;> omega
theorem p279_s : bSem amGG P0 84 bTT 279 (sPub 2 9) := by
  refine pub2 (N := am_m279) rfl (fun x y hp hH hP => ?_)
  refine xin (M := am_m279) rfl rfl rfl ?_
  have G := bFr.refl wM hp
  have q1 := hP.1.1
  have q2 := hP.1.2.1
  refine xald 1 ⟨u279, _, rfl⟩ rfl rfl ?_
  refine xild 2 ⟨u279, _, rfl⟩ rfl rfl ?_
  refine xild 3 ⟨u279, _, rfl⟩ rfl rfl ?_
  refine xcall 6 [.ref 66, .int _, .int _] [] hH ⟨u279, _, rfl⟩ rfl rfl rfl rfl rfl (k_nopair hH hP (fun z3 hp3 hH3 hP3 F3 h3 => ⟨_, rfl, ?_⟩))
  have G3 := G.trans (bFr_sub (W1 := wM) F3 (by decide))
  have e3 : rN hp3 67 0 = rN hp 67 0 := r_fr F3 rfl
  have t3 : ∀ u v, tT hp3 u v = tT hp u v := fun u v => r_fr F3 rfl
  refine xif_eq 9 ⟨u279, _, rfl⟩ rfl (fun c6 => ?_) (fun c6 => ?_)
  · refine xald 12 ⟨u279, _, rfl⟩ rfl rfl ?_
    refine xcall 15 [.ref 66] [] hH3 ⟨u279, _, rfl⟩ rfl rfl rfl rfl rfl (k_rem hH3 hP3 (fun hp12 hH12 hP12 F12 => ⟨_, rfl, ?_⟩))
    have G12 := G3.trans (bFr_sub (W1 := wM) F12 (by decide))
    have e12 : rN hp12 67 0 = rN hp3 67 0 := r_fr F12 rfl
    have t12 : ∀ u v, tT hp12 u v = tT hp3 u v := fun u v => r_fr F12 rfl
    refine xald 16 ⟨u279, _, rfl⟩ rfl rfl ?_
    refine xcall 19 [.ref 66] [] hH12 ⟨u279, _, rfl⟩ rfl rfl rfl rfl rfl (k_lst hH12 hP12 (fun hp16 m hH16 hP16 F16 hL16 => ⟨_, rfl, ?_⟩))
    have G16 := G12.trans (bFr_sub (W1 := wM) F16 (by decide))
    obtain ⟨A, hA, hS⟩ := Lst_A hP16.1 hL16
    have p3 := hP16.1.1
    have p15 := hP16.1.2.1
    have e16 : rN hp16 67 0 = rN hp12 67 0 := r_fr F16 rfl
    have t16 : ∀ u v, tT hp16 u v = tT hp12 u v := fun u v => r_fr F16 rfl
    refine xcst 20 (0) ⟨u279, _, rfl⟩ rfl (by decide) (fun z19 h19 => ?_)
    refine xist 21 ⟨u279, _, rfl⟩ rfl rfl ?_
    refine xald 22 ⟨u279, _, rfl⟩ rfl rfl ?_
    refine xgetR 25 67 hH16 ⟨u279, _, rfl⟩ rfl rfl ?_
    refine xcst 26 (4) ⟨u279, _, rfl⟩ rfl (by decide) (fun z25 h25 => ?_)
    refine xald 27 ⟨u279, _, rfl⟩ rfl rfl ?_
    refine xgetR 30 68 hH16 ⟨u279, _, rfl⟩ rfl rfl ?_
    refine xcst 31 (4) ⟨u279, _, rfl⟩ rfl (by decide) (fun z30 h30 => ?_)
    refine xsip 34 (225) ⟨u279, _, rfl⟩ rfl (by decide) (fun z31 h31 => ?_)
    refine xcallS 37 [.ref 67, .int _, .ref 68, .int _, .int _] [] hH16 ⟨u279, _, rfl⟩ rfl rfl rfl rfl rfl (k_copy 4 4 225 hH16 (by decide) (by decide) (by decide) rfl rfl (by omega) (by omega) (by omega) (by omega) (by omega) (by decide) (fun hp34 hH34 F34 E34 => ⟨_, rfl, ?_⟩))
    have G34 := G16.trans (bFr_sub (W1 := wM) F34 (by decide))
    have hP34 : P0 hp34 := P0_68 F34 hP16
    have e34 : rN hp34 67 0 = rN hp16 67 0 := r_fr F34 rfl
    have t34 : ∀ u v, tT hp34 u v = tT hp16 u v := fun u v => r_fr F34 rfl
    refine xcst 38 (0) ⟨u279, _, rfl⟩ rfl (by decide) (fun z37 h37 => ?_)
    refine xist2 40 ⟨u279, _, rfl⟩ rfl rfl ?_
    refine tk279 p3 p15 hS (fun k1 hp1 hH1 hP1 hF1 he1 hA1 hT1 => ?_) 36 _ hp34 hH34 hP34 (bFr.refl _ _) (e34) (Arr_W (by decide) F34 hA) (fun u v hu hv => ⟨fun k hk => absurd hk (by omega), fun _ => t34 u v⟩) (by omega) (by omega) (by omega)
    refine xcst 81 (0) ⟨u279, _, rfl⟩ rfl (by decide) (fun z80 h80 => ?_)
    refine xist2 83 ⟨u279, _, rfl⟩ rfl rfl ?_
    refine xpad 3 ?_
    exact pt279 p3 p15 hS (s := swS x.toInt.toNat y.toInt.toNat) (fun w hw => by unfold swS; split <;> (try split) <;> omega) (fun a b ha hb => by unfold swS; split <;> split <;> (try split) <;> (try split) <;> omega) (fun q hq => by unfold swS; split <;> (try split) <;> (try split) <;> (try split) <;> omega) (fun r hp2 k1 k2 k3 => ⟨⟨r, rfl⟩, k1, k2, G34.trans (bFr_sub k3 (by decide))⟩) 36 _ _ _ _ _ hp1 hH1 hP1 hF1 he1 hA1 (fun u v hu hv => Or.inl (Tkn_e hS hT1 u v hu hv)) (by omega) (by omega) (by omega) (by omega) (by omega)
  · refine xcst 10 (0) ⟨u279, _, rfl⟩ rfl (by decide) (fun z9 h9 => ?_)
    exact xret ⟨u279, _, rfl⟩ rfl ⟨⟨_, rfl⟩, hH3, hP3, G3⟩
theorem p281_s : bSem amGG P0 84 bTT 281 (sPub 1 9) := by
  refine pub1 (N := am_m281) rfl (fun x hp hH hP => ?_)
  refine xin (M := am_m281) rfl rfl rfl ?_
  have G := bFr.refl wM hp
  have q1 := hP.1.1
  have q2 := hP.1.2.1
  refine xald 1 ⟨u281, _, rfl⟩ rfl rfl ?_
  refine xcst 2 (0) ⟨u281, _, rfl⟩ rfl (by decide) (fun z1 h1 => ?_)
  refine xputI 5 hH ⟨u281, _, rfl⟩ rfl rfl ⟨rfl, rfl⟩ (by omega) (by omega) (fun hp2 hH2 U2 => ?_)
  have G2 := G.trans (rU_fr U2 (W := wM) (by decide))
  have hP2 := P0_W (W := [(66, 7)]) (by decide) (rU_fr U2 rfl) hP
  have e2 : rN hp2 67 0 = rN hp 67 0 := rU_ne U2 (by omega)
  refine xald 6 ⟨u281, _, rfl⟩ rfl rfl ?_
  refine xcall 9 [.ref 66] [] hH2 ⟨u281, _, rfl⟩ rfl rfl rfl rfl rfl (k_rem hH2 hP2 (fun hp6 hH6 hP6 F6 => ⟨_, rfl, ?_⟩))
  have G6 := G2.trans (bFr_sub (W1 := wM) F6 (by decide))
  have e6 : rN hp6 67 0 = rN hp2 67 0 := r_fr F6 rfl
  have t6 : ∀ u v, tT hp6 u v = tT hp2 u v := fun u v => r_fr F6 rfl
  refine xald 10 ⟨u281, _, rfl⟩ rfl rfl ?_
  refine xcall 13 [.ref 66] [] hH6 ⟨u281, _, rfl⟩ rfl rfl rfl rfl rfl (k_lst hH6 hP6 (fun hp10 m hH10 hP10 F10 hL10 => ⟨_, rfl, ?_⟩))
  have G10 := G6.trans (bFr_sub (W1 := wM) F10 (by decide))
  obtain ⟨A, hA, hS⟩ := Lst_A hP10.1 hL10
  have p3 := hP10.1.1
  have p15 := hP10.1.2.1
  have hbv := bv_in (k := x.toInt) (p := rN hp10 67 0) (by omega)
  have e10 : rN hp10 67 0 = rN hp6 67 0 := r_fr F10 rfl
  have t10 : ∀ u v, tT hp10 u v = tT hp6 u v := fun u v => r_fr F10 rfl
  refine xcst 14 (0) ⟨u281, _, rfl⟩ rfl (by decide) (fun z13 h13 => ?_)
  refine xist 15 ⟨u281, _, rfl⟩ rfl rfl ?_
  refine xald 16 ⟨u281, _, rfl⟩ rfl rfl ?_
  refine xgetR 19 67 hH10 ⟨u281, _, rfl⟩ rfl rfl ?_
  refine xcst 20 (4) ⟨u281, _, rfl⟩ rfl (by decide) (fun z19 h19 => ?_)
  refine xald 21 ⟨u281, _, rfl⟩ rfl rfl ?_
  refine xgetR 24 68 hH10 ⟨u281, _, rfl⟩ rfl rfl ?_
  refine xcst 25 (4) ⟨u281, _, rfl⟩ rfl (by decide) (fun z24 h24 => ?_)
  refine xsip 28 (225) ⟨u281, _, rfl⟩ rfl (by decide) (fun z25 h25 => ?_)
  refine xcallS 31 [.ref 67, .int _, .ref 68, .int _, .int _] [] hH10 ⟨u281, _, rfl⟩ rfl rfl rfl rfl rfl (k_copy 4 4 225 hH10 (by decide) (by decide) (by decide) rfl rfl (by omega) (by omega) (by omega) (by omega) (by omega) (by decide) (fun hp28 hH28 F28 E28 => ⟨_, rfl, ?_⟩))
  have G28 := G10.trans (bFr_sub (W1 := wM) F28 (by decide))
  have hP28 : P0 hp28 := P0_68 F28 hP10
  have e28 : rN hp28 67 0 = rN hp10 67 0 := r_fr F28 rfl
  have t28 : ∀ u v, tT hp28 u v = tT hp10 u v := fun u v => r_fr F28 rfl
  refine xcst 32 (0) ⟨u281, _, rfl⟩ rfl (by decide) (fun z31 h31 => ?_)
  refine xist 33 ⟨u281, _, rfl⟩ rfl rfl ?_
  refine tk281 p3 p15 hS (fun k1 hp1 hH1 hP1 hF1 he1 hA1 hT1 => ?_) 36 _ hp28 hH28 hP28 (bFr.refl _ _) (e28) (Arr_W (by decide) F28 hA) (fun u v hu hv => ⟨fun k hk => absurd hk (by omega), fun _ => t28 u v⟩) (by omega) (by omega) (by omega)
  refine xcst 70 (0) ⟨u281, _, rfl⟩ rfl (by decide) (fun z69 h69 => ?_)
  refine xist 71 ⟨u281, _, rfl⟩ rfl rfl ?_
  refine xpad 3 ?_
  exact pt281 p3 p15 hS (s := tuS (bv x.toInt (rN hp10 67 0)).toNat (rN hp10 67 0).toNat) (fun w hw => (tu_v hbv.1 hbv.2 hw).1) (fun a b ha hb z => by
      have h1 := tu_v hbv.1 hbv.2 ha
      have h2 := tu_v hbv.1 hbv.2 hb
      rw [z] at h1
      omega) (fun q hq => (tu_v hbv.1 hbv.2 hq).2) (fun r hp2 k1 k2 k3 => ⟨⟨r, rfl⟩, k1, k2, G28.trans (bFr_sub k3 (by decide))⟩) 36 _ _ _ _ _ hp1 hH1 hP1 hF1 he1 hA1 (fun u v hu hv => Or.inl (Tkn_e hS hT1 u v hu hv)) (by omega) (by omega) (by omega) (by omega) (by omega)
