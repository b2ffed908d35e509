/-! ===== isTurned on both sides ===== -/
theorem u156 : bUp 0 am_m156.1 = true := by decide +kernel
theorem k_156E {d V n : Nat} {h : Nat → sR} {sv : Option sR} {T : sT} {ty : Nat → Int} {hp : amH} {R : xQ} {k : Int32} (hH : bHk 84 bTT hp) (hS : clS hp (V, T, ty) n h sv)
    (hR : ∀ (z : Int32) hp1, bHk 84 bTT hp1 → cF hp hp1 → clS hp1 (V, T, ty) n h sv → z.toInt = tkV V (bv k.toInt (V : Int)).toNat T → R (.inl (some (.int z))) hp1) : xK (d + 4) 156 [.ref 0, .int k] hp R := by
  have hB : bdOk hp 3 V T := hS.1
  have b0 : rN hp 3 0 = (V : Int) := hB.1
  have hL : lsN hp 3 T 225 := hS.2.1
  have b1 : rN hp 3 1 = (((trL T 225).length : Nat) : Int) := hL.1
  have hT0 : sOk V T := hB.2.1
  have h15 : V ≤ 15 := hT0.2.1
  have l35 : (trL T 225).length ≤ 35 := trL_35 hT0 225
  have bi := bv_in (k := k.toInt) (p := (V : Int)) (by have := hT0.1; omega)
  refine xin (M := am_m156) rfl rfl rfl ?_
  refine xald 1 ⟨u156, _, rfl⟩ rfl rfl ?_
  refine xgetD 4 (3) hH ⟨u156, _, rfl⟩ rfl (by decide) (by decide) rfl rfl (by decide) ?_
  refine xald 5 ⟨u156, _, rfl⟩ rfl rfl ?_
  refine xgetD 8 (3) hH ⟨u156, _, rfl⟩ rfl (by decide) (by decide) rfl rfl (by decide) ?_
  refine xild 9 ⟨u156, _, rfl⟩ rfl rfl ?_
  refine xcallC 12 (o := 3) [.int _] [.ref 3] hH ⟨u156, _, rfl⟩ rfl rfl (by decide) rfl (by decide) rfl ⟨rfl, rfl, rfl, rfl⟩ rfl (k_twn hH b0 hT0.1 h15 (fun z9 h9 => ⟨_, rfl, ?_⟩))
  refine xcallC 15 (o := 3) [.int _] [] hH ⟨u156, _, rfl⟩ rfl rfl (by decide) rfl (by decide) rfl ⟨rfl, rfl, rfl, rfl⟩ rfl (k_29E hH hB hL (x := (bv k.toInt (V : Int)).toNat) (by omega) (by omega) (fun z12 h12 => ⟨_, rfl, ?_⟩))
  have j12 := tkV_01 (V := V) (k := (bv k.toInt (V : Int)).toNat) (T := T)
  exact xretB ⟨u156, _, rfl⟩ rfl (by omega) (hR _ _ hH cF.refl hS h12)
theorem u321 : bUp 0 am_m321.1 = true := by decide +kernel
theorem k_321E {d V n : Nat} {h : Nat → sR} {sv : Option sR} {T : sT} {ty : Nat → Int} {hp : amH} {R : xQ} {k : Int32} (hH : bHk 84 bTT hp) (hP : P0 hp) (hS : rfS hp (V, T, ty) n h sv)
    (hR : ∀ (z : Int32) hp1, bHk 84 bTT hp1 → P0 hp1 → bFr wM hp hp1 → rfS hp1 (V, T, ty) n h sv → z.toInt = tkV V (bv k.toInt (V : Int)).toNat T → R (.inl (some (.int z))) hp1) : xK (d + 3) 321 [.ref 66, .int k] hp R := by
  have hB : rdOk hp V T := rowOk_rd hS.1
  have b0 : rN hp 67 0 = (V : Int) := hB.1
  have hT0 : sOk V T := hB.2.1
  have h15 : V ≤ 15 := hT0.2.1
  have l35 : (trL T 225).length ≤ 35 := trL_35 hT0 225
  have bi := bv_in (k := k.toInt) (p := (V : Int)) (by have := hT0.1; omega)
  refine xin (M := am_m321) rfl rfl rfl ?_
  refine xald 1 ⟨u321, _, rfl⟩ rfl rfl ?_
  refine xcst 2 (0) ⟨u321, _, rfl⟩ rfl (by decide) (fun z1 h1 => ?_)
  refine xputI 5 hH ⟨u321, _, rfl⟩ rfl rfl ⟨rfl, rfl⟩ (by omega) (by omega) (fun hp2 hH2 U2 => ?_)
  have s2 := U2.1
  have S2 := rfS_W (W := [(66, 7)]) hS (rU_fr U2 rfl) (fun _ => rfl) rfl rfl (fun _ => rfl) (fun _ => rfl)
  have P2 := P0_W (W := [(66, 7)]) (by decide) (rU_fr U2 rfl) hP
  have B2 := rowOk_rd S2.1
  refine xald 6 ⟨u321, _, rfl⟩ rfl rfl ?_
  refine xcall 9 [.ref 66] [] hH2 ⟨u321, _, rfl⟩ rfl rfl rfl rfl rfl (k_rlst hH2 B2 (fun hp6 hH6 F6 B6 L6 => ⟨_, rfl, ?_⟩))
  have P6 := P0_W (W := bLT) (by decide) F6 P2
  refine xald 10 ⟨u321, _, rfl⟩ rfl rfl ?_
  refine xald 11 ⟨u321, _, rfl⟩ rfl rfl ?_
  refine xild 12 ⟨u321, _, rfl⟩ rfl rfl ?_
  refine xcall 15 [.ref 66, .int _] [.ref 66] hH6 ⟨u321, _, rfl⟩ rfl rfl rfl rfl rfl (k_by hH6 P6 (fun z12 h12 => ⟨_, rfl, ?_⟩))
  rw [B6.1] at h12
  refine xcall 18 [.ref 66, .int _] [] hH6 ⟨u321, _, rfl⟩ rfl rfl rfl rfl rfl (k_235E hH6 P6 B6 L6 (x := (bv k.toInt (V : Int)).toNat) (by omega) (by omega) (fun z15 h15 => ⟨_, rfl, ?_⟩))
  have j15 := tkV_01 (V := V) (k := (bv k.toInt (V : Int)).toNat) (T := T)
  exact xretB ⟨u321, _, rfl⟩ rfl (by omega) (hR _ hp6 hH6 P6 ((rU_fr U2 (by decide)).trans (bFr_sub F6 (by decide))) (rfS_W S2 F6 (fun _ => rfl) rfl rfl (fun _ => rfl) (fun _ => rfl)) h15)
