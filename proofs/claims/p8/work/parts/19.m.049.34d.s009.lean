theorem k_lqs {d V : Nat} {T : sT} {hp : amH} {R : xQ} (hH : bHk 84 bTT hp) (hB : rdOk hp V T) (H105 : (fL (qdB T) 42875).length ≤ 105) (hR : ∀ hp1, bHk 84 bTT hp1 → bFr wLQE hp hp1 → rdOk hp1 V T → rlN hp1 T 225 → rqN hp1 T 42875 → R (.inl none) hp1) : xK (d + 4) 216 [.ref 66] hp R := by
  refine xin (M := am_m216) rfl rfl rfl ?_
  refine xald 1 ⟨u216, _, rfl⟩ rfl rfl ?_
  refine xcall 4 [.ref 66] [] hH ⟨u216, _, rfl⟩ rfl rfl rfl rfl rfl (k_rlst hH hB (fun hp1 hH1 F1 B1 L1 => ⟨_, rfl, ?_⟩))
  refine xald 5 ⟨u216, _, rfl⟩ rfl rfl ?_
  refine xcst 6 (0) ⟨u216, _, rfl⟩ rfl (by decide) (fun z5 h5 => ?_)
  refine xputI 9 hH1 ⟨u216, _, rfl⟩ rfl rfl ⟨rfl, rfl⟩ (by omega) (by omega) (fun hp6 hH6 U6 => ?_)
  have s6 := U6.1
  refine xcst 10 (0) ⟨u216, _, rfl⟩ rfl (by decide) (fun z9 h9 => ?_)
  refine xist 11 ⟨u216, _, rfl⟩ rfl rfl ?_
  have B6 : rdOk hp6 V T := rdOk_fr B1 (fun _ => rU_ne U6 (by omega))
  have L6 : rlN hp6 T 225 := rlN_fr L1 (rU_ne U6 (by omega)) (fun _ => rU_ne U6 (by omega)) (fun _ => rU_ne U6 (by omega)) (fun _ => rU_ne U6 (by omega)) (fun _ => rU_ne U6 (by omega))
  refine xpad 4 ?_
  exact l216iE B6 L6 H105 (fun hp1 g1 g2 g3 => hR hp1 g1 (((bFr_sub F1 (by decide)).trans (rU_fr U6 (by decide))).trans (bFr_sub g2 (by decide))) (rdOk_fr B6 (fun _ => r_fr g2 rfl)) (rlN_fr L6 (r_fr g2 rfl) (fun _ => r_fr g2 rfl) (fun _ => r_fr g2 rfl) (fun _ => r_fr g2 rfl) (fun _ => r_fr g2 rfl)) g3) (trL T 225).length 0 _ hp6 _ _ _ _ (by omega) (by omega) hH6 (bFr.refl _ _) ⟨by rw [U6.1]; exact h5, fun q hq => absurd hq (Nat.not_lt_zero q)⟩
