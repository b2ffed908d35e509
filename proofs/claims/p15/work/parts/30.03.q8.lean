/-! ===== isComplete on both sides ===== -/
def icV (V : Nat) (T : sT) : Int := if opC V T = 0 then 1 else 0
theorem u119 : bUp 0 am_m119.1 = true := by decide +kernel
theorem k_119E {d V n : Nat} {h : Nat → sR} {sv : Option sR} {T : sT} {ty : Nat → Int} {hp : amH} {R : xQ} (hH : bHk 84 bTT hp) (hS : clS hp (V, T, ty) n h sv)
    (hR : ∀ (z : Int32) hp1, bHk 84 bTT hp1 → cF hp hp1 → clS hp1 (V, T, ty) n h sv → z.toInt = icV V T → R (.inl (some (.int z))) hp1) : xK (d + 3) 119 [.ref 0] hp R := by
  have hB : bdOk hp 3 V T := hS.1
  have b0 : rN hp 3 0 = (V : Int) := hB.1
  have hL : lsN hp 3 T 225 := hS.2.1
  have b1 : rN hp 3 1 = (((trL T 225).length : Nat) : Int) := hL.1
  have hT0 : sOk V T := hB.2.1
  have h15 : V ≤ 15 := hT0.2.1
  have l35 : (trL T 225).length ≤ 35 := trL_35 hT0 225
  refine xin (M := am_m119) rfl rfl rfl ?_
  refine xald 1 ⟨u119, _, rfl⟩ rfl rfl ?_
  refine xgetD 4 (3) hH ⟨u119, _, rfl⟩ rfl (by decide) (by decide) rfl rfl (by decide) ?_
  refine xcallC 7 (o := 3) [] [] hH ⟨u119, _, rfl⟩ rfl rfl (by decide) rfl (by decide) rfl ⟨rfl, rfl, rfl, rfl⟩ rfl (k_23E (o := 3) (Or.inl rfl) hH hB (fun z4 h4 => ⟨_, rfl, ?_⟩))
  refine xif_ne 10 ⟨u119, _, rfl⟩ rfl (fun c7 => ?_) (fun c7 => ?_)
  · refine xcst 15 (0) ⟨u119, _, rfl⟩ rfl (by decide) (fun z14 h14 => ?_)
    exact xretB ⟨u119, _, rfl⟩ rfl (by omega) (hR _ _ hH cF.refl hS (by unfold icV; rw [if_neg (by omega)]; omega))
  · refine xcst 11 (1) ⟨u119, _, rfl⟩ rfl (by decide) (fun z10 h10 => ?_)
    refine xgoto ⟨u119, _, rfl⟩ ?_
    exact xretB ⟨u119, _, rfl⟩ rfl (by omega) (hR _ _ hH cF.refl hS (by unfold icV; rw [if_pos (by omega)]; omega))
theorem k_262E {d V : Nat} {T : sT} {hp : amH} {R : xQ} (hH : bHk 84 bTT hp) (hP : P0 hp) (hB : rdOk hp V T)
    (hR : ∀ (z : Int32) hp1, bHk 84 bTT hp1 → bFr bLT hp hp1 → rdOk hp1 V T → rlN hp1 T 225 → z.toInt = icV V T → R (.inl (some (.int z))) hp1) : xK (d + 4) 262 [.ref 66] hp R := by
  refine xin (M := am_m262) rfl rfl rfl ?_
  refine xald 1 ⟨u262, _, rfl⟩ rfl rfl ?_
  refine xcall 4 [.ref 66] [] hH ⟨u262, _, rfl⟩ rfl rfl rfl rfl rfl (k_215E hH hP hB (fun z1 hp1 hH1 F1 B1 L1 h1 => ⟨_, rfl, ?_⟩))
  refine xif_ne 7 ⟨u262, _, rfl⟩ rfl (fun c4 => ?_) (fun c4 => ?_)
  · refine xcst 12 (0) ⟨u262, _, rfl⟩ rfl (by decide) (fun z11 h11 => ?_)
    exact xretB ⟨u262, _, rfl⟩ rfl (by omega) (hR _ _ hH1 F1 B1 L1 (by unfold icV; rw [if_neg (by omega)]; omega))
  · refine xcst 8 (1) ⟨u262, _, rfl⟩ rfl (by decide) (fun z7 h7 => ?_)
    refine xgoto ⟨u262, _, rfl⟩ ?_
    exact xretB ⟨u262, _, rfl⟩ rfl (by omega) (hR _ _ hH1 F1 B1 L1 (by unfold icV; rw [if_pos (by omega)]; omega))
theorem u263 : bUp 0 am_m263.1 = true := by decide +kernel
theorem k_263E {d V n : Nat} {h : Nat → sR} {sv : Option sR} {T : sT} {ty : Nat → Int} {hp : amH} {R : xQ} (hH : bHk 84 bTT hp) (hP : P0 hp) (hS : rfS hp (V, T, ty) n h sv)
    (hR : ∀ (z : Int32) hp1, bHk 84 bTT hp1 → P0 hp1 → bFr wM hp hp1 → rfS hp1 (V, T, ty) n h sv → z.toInt = icV V T → R (.inl (some (.int z))) hp1) : xK (d + 5) 263 [.ref 66] hp R := by
  have hB : rdOk hp V T := rowOk_rd hS.1
  have b0 : rN hp 67 0 = (V : Int) := hB.1
  have hT0 : sOk V T := hB.2.1
  have h15 : V ≤ 15 := hT0.2.1
  have l35 : (trL T 225).length ≤ 35 := trL_35 hT0 225
  refine xin (M := am_m263) rfl rfl rfl ?_
  refine xald 1 ⟨u263, _, rfl⟩ rfl rfl ?_
  refine xcst 2 (0) ⟨u263, _, rfl⟩ rfl (by decide) (fun z1 h1 => ?_)
  refine xputI 5 hH ⟨u263, _, rfl⟩ rfl rfl ⟨rfl, rfl⟩ (by omega) (by omega) (fun hp2 hH2 U2 => ?_)
  have s2 := U2.1
  have S2 := rfS_W (W := [(66, 7)]) hS (rU_fr U2 rfl) (fun _ => rfl) rfl rfl (fun _ => rfl) (fun _ => rfl)
  have P2 := P0_W (W := [(66, 7)]) (by decide) (rU_fr U2 rfl) hP
  refine xald 6 ⟨u263, _, rfl⟩ rfl rfl ?_
  refine xcall 9 [.ref 66] [] hH2 ⟨u263, _, rfl⟩ rfl rfl rfl rfl rfl (k_262E hH2 P2 (rowOk_rd S2.1) (fun z6 hp6 hH6 F6 B6 L6 h6 => ⟨_, rfl, ?_⟩))
  exact xretB ⟨u263, _, rfl⟩ rfl (by rw [h6]; unfold icV; split <;> simp) (hR _ _ hH6 (P0_W (W := bLT) (by decide) F6 P2) ((rU_fr U2 (by decide)).trans (bFr_sub F6 (by decide))) (rfS_W S2 F6 (fun _ => rfl) rfl rfl (fun _ => rfl) (fun _ => rfl)) h6)
