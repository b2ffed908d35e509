theorem l216iE {d V : Nat} {T : sT} {hp0 : amH} {R : xQ} (hB0 : rdOk hp0 V T) (hL0 : rlN hp0 T 225) (H105 : (fL (qdB T) 42875).length ≤ 105) (hR : ∀ hp1, bHk 84 bTT hp1 → bFr wRq hp0 hp1 → rqN hp1 T 42875 → R (.inl none) hp1) :
    ∀ (ii i : Nat) (wi : Int32) (hp : amH) (v2 v3 v4 v5 : Option Value), wi.toInt = (i : Int) → i + ii = (trL T 225).length → bHk 84 bTT hp → bFr wRq hp0 hp → rqN hp T (1225 * i) → xV (d + 4) am_m216 11 [some (.ref 66), some (.int wi), v2, v3, v4, v5] [] hp R := by
  intro ii
  induction ii with
  | zero =>
    intro i wi hp v2 v3 v4 v5 hwi hi hH hF hN
    have hB : rdOk hp V T := rdOk_fr hB0 (fun _ => r_fr hF rfl)
    have hL : rlN hp T 225 := rlN_fr hL0 (r_fr hF rfl) (fun _ => r_fr hF rfl) (fun _ => r_fr hF rfl) (fun _ => r_fr hF rfl) (fun _ => r_fr hF rfl)
    have L1 := hL.1
    have l35 := trL_35 hB.2.1 225
    have LM : ∀ t, t < (trL T 225).length → rN hp 75 t = ((mN T t : Nat) : Int) := fun t ht => (hL.2 t ht).2.2.2
    refine xild 12 ⟨u216, _, rfl⟩ rfl rfl ?_
    refine xald 13 ⟨u216, _, rfl⟩ rfl rfl ?_
    refine xgetI 16 hH ⟨u216, _, rfl⟩ rfl rfl (fun z13 h13 => ?_)
    refine xcmp_ge 19 ⟨u216, _, rfl⟩ rfl (fun c16 => ?_) (fun c16 => ?_)
    · exact xretV ⟨u216, _, rfl⟩ rfl (hR hp hH hF (rqN_to hN (fL_no (by omega) (fun c c1 c2 => qd_no (by omega)))))
    · omega
  | succ ii ih =>
    intro i wi hp v2 v3 v4 v5 hwi hi hH hF hN
    have hB : rdOk hp V T := rdOk_fr hB0 (fun _ => r_fr hF rfl)
    have hL : rlN hp T 225 := rlN_fr hL0 (r_fr hF rfl) (fun _ => r_fr hF rfl) (fun _ => r_fr hF rfl) (fun _ => r_fr hF rfl) (fun _ => r_fr hF rfl)
    have L1 := hL.1
    have l35 := trL_35 hB.2.1 225
    have LM : ∀ t, t < (trL T 225).length → rN hp 75 t = ((mN T t : Nat) : Int) := fun t ht => (hL.2 t ht).2.2.2
    refine xild 12 ⟨u216, _, rfl⟩ rfl rfl ?_
    refine xald 13 ⟨u216, _, rfl⟩ rfl rfl ?_
    refine xgetI 16 hH ⟨u216, _, rfl⟩ rfl rfl (fun z13 h13 => ?_)
    refine xcmp_ge 19 ⟨u216, _, rfl⟩ rfl (fun c16 => ?_) (fun c16 => ?_)
    · omega
    · refine xild 20 ⟨u216, _, rfl⟩ rfl rfl ?_
      refine xcst 21 (1) ⟨u216, _, rfl⟩ rfl (by decide) (fun z20 h20 => ?_)
      refine xadd 22 _ ⟨u216, _, rfl⟩ rfl rfl (by omega) (by omega) (fun z21 h21 => ?_)
      refine xist 23 ⟨u216, _, rfl⟩ rfl rfl ?_
      refine l216jE hB0 hL0 H105 hwi (by omega) (fun hp1 v21 v31 v41 v51 k1 k2 k3 => ?_) ((trL T 225).length - (i + 1)) (i + 1) _ hp _ _ _ (by omega) (by omega) (by omega) hH hF (rqN_to hN (fL_no (by omega) (fun c c1 c2 => qd_no (by omega))))
      refine xinc 135 (1) ⟨u216, _, rfl⟩ rfl rfl rfl (by decide) (by omega) (by omega) (fun z132 h132 => ?_)
      refine xgoto ⟨u216, _, rfl⟩ ?_
      exact ih (i + 1) _ hp1 _ _ _ _ (by omega) (by omega) k1 k2 k3
