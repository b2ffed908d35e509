/-! ===== count on both sides ===== -/
theorem k_215E {d V : Nat} {T : sT} {hp : amH} {R : xQ} (hH : bHk 84 bTT hp) (hP : P0 hp) (hB : rdOk hp V T)
    (hR : ∀ (z : Int32) hp1, bHk 84 bTT hp1 → bFr bLT hp hp1 → rdOk hp1 V T → rlN hp1 T 225 → z.toInt = ((opC V T : Nat) : Int) → R (.inl (some (.int z))) hp1) : xK (d + 3) 215 [.ref 66] hp R := by
  have hV : rN hp 67 0 = (V : Int) := hB.1
  have hT : sOk V T := hB.2.1
  have k := op_half hT
  have h15 := hT.2.1
  have l35 := trL_35 hT 225
  have ev : (V : Int) * ((V : Int) - 1) / 2 = ((V * (V - 1) / 2 : Nat) : Int) := by
    have e3 := hT.1
    rw [show (V : Int) - 1 = ((V - 1 : Nat) : Int) by omega, ← Int.natCast_mul]
    rfl
  have em : V * (V - 1) / 2 ≤ 15 * 14 / 2 := Nat.div_le_div_right (Nat.mul_le_mul h15 (by omega))
  have u215 : bUp 0 am_m215.1 = true := by decide +kernel
  have ec : opC V T = V * (V - 1) / 2 - 3 * (trL T 225).length := rfl
  generalize hw : V * (V - 1) / 2 = w at *
  refine xin (M := am_m215) rfl rfl rfl ?_
  refine xald 1 ⟨u215, _, rfl⟩ rfl rfl ?_
  refine xcall 4 [.ref 66] [] hH ⟨u215, _, rfl⟩ rfl rfl rfl rfl rfl (k_pairs hH hP (fun z1 h1 => ⟨_, rfl, ?_⟩))
  rw [hV, ev] at h1
  refine xcst 5 (3) ⟨u215, _, rfl⟩ rfl (by decide) (fun z4 h4 => ?_)
  refine xald 6 ⟨u215, _, rfl⟩ rfl rfl ?_
  refine xcall 9 [.ref 66] [.int _, .int _] hH ⟨u215, _, rfl⟩ rfl rfl rfl rfl rfl (k_rtm hH hB (fun z6 hp6 hH6 F6 B6 L6 h6 => ⟨_, rfl, ?_⟩))
  refine xmul 10 (3 * Int32.toInt z6) ⟨u215, _, rfl⟩ rfl (by rw [h4]) (by omega) (by omega) (fun z9 h9 => ?_)
  refine xsub 11 _ ⟨u215, _, rfl⟩ rfl rfl (by omega) (by omega) (fun z10 h10 => ?_)
  exact xret ⟨u215, _, rfl⟩ rfl (hR _ _ hH6 F6 B6 L6 (by omega))
