theorem l216jE {d i V : Nat} {T : sT} {hp0 : amH} {R : xQ} {wi : Int32} (hB0 : rdOk hp0 V T) (hL0 : rlN hp0 T 225) (H105 : (fL (qdB T) 42875).length ≤ 105) (hwi : wi.toInt = (i : Int)) (hil : i < (trL T 225).length)
    (hQ : ∀ hp (v2 v3 v4 v5 : Option Value), bHk 84 bTT hp → bFr wRq hp0 hp → rqN hp T (1225 * (i + 1)) → xV (d + 4) am_m216 132 [some (.ref 66), some (.int wi), v2, v3, v4, v5] [] hp R) :
    ∀ (jj j : Nat) (wj : Int32) (hp : amH) (v3 v4 v5 : Option Value), wj.toInt = (j : Int) → i < j → j + jj = (trL T 225).length → bHk 84 bTT hp → bFr wRq hp0 hp → rqN hp T (1225 * i + 35 * j) → xV (d + 4) am_m216 23 [some (.ref 66), some (.int wi), some (.int wj), v3, v4, v5] [] hp R := by
  intro jj
  induction jj with
  | zero =>
    intro j wj hp v3 v4 v5 hwj hij hj hH hF hN
    have hB : rdOk hp V T := rdOk_fr hB0 (fun _ => r_fr hF rfl)
    have hL : rlN hp T 225 := rlN_fr hL0 (r_fr hF rfl) (fun _ => r_fr hF rfl) (fun _ => r_fr hF rfl) (fun _ => r_fr hF rfl) (fun _ => r_fr hF rfl)
    have L1 := hL.1
    have l35 := trL_35 hB.2.1 225
    have LM : ∀ t, t < (trL T 225).length → rN hp 75 t = ((mN T t : Nat) : Int) := fun t ht => (hL.2 t ht).2.2.2
    refine xild 24 ⟨u216, _, rfl⟩ rfl rfl ?_
    refine xald 25 ⟨u216, _, rfl⟩ rfl rfl ?_
    refine xgetI 28 hH ⟨u216, _, rfl⟩ rfl rfl (fun z25 h25 => ?_)
    refine xcmp_ge 31 ⟨u216, _, rfl⟩ rfl (fun c28 => ?_) (fun c28 => ?_)
    · exact hQ hp _ _ _ _ hH hF (rqN_to hN (fL_no (by omega) (fun c c1 c2 => qd_no (by omega))))
    · omega
  | succ jj ih =>
    intro j wj hp v3 v4 v5 hwj hij hj hH hF hN
    have hB : rdOk hp V T := rdOk_fr hB0 (fun _ => r_fr hF rfl)
    have hL : rlN hp T 225 := rlN_fr hL0 (r_fr hF rfl) (fun _ => r_fr hF rfl) (fun _ => r_fr hF rfl) (fun _ => r_fr hF rfl) (fun _ => r_fr hF rfl)
    have L1 := hL.1
    have l35 := trL_35 hB.2.1 225
    have LM : ∀ t, t < (trL T 225).length → rN hp 75 t = ((mN T t : Nat) : Int) := fun t ht => (hL.2 t ht).2.2.2
    have mi := mN_lt hB.2.1 (show i < (trL T 225).length by omega)
    have mj := mN_lt hB.2.1 (show j < (trL T 225).length by omega)
    refine xild 24 ⟨u216, _, rfl⟩ rfl rfl ?_
    refine xald 25 ⟨u216, _, rfl⟩ rfl rfl ?_
    refine xgetI 28 hH ⟨u216, _, rfl⟩ rfl rfl (fun z25 h25 => ?_)
    refine xcmp_ge 31 ⟨u216, _, rfl⟩ rfl (fun c28 => ?_) (fun c28 => ?_)
    · omega
    · refine xald 32 ⟨u216, _, rfl⟩ rfl rfl ?_
      refine xgetR 35 75 hH ⟨u216, _, rfl⟩ rfl rfl ?_
      refine xild 36 ⟨u216, _, rfl⟩ rfl rfl ?_
      refine xiald 37 (wi).toInt.toNat hH ⟨u216, _, rfl⟩ rfl (by decide) rfl (by omega) (by omega) (fun z36 h36 => ?_)
      refine xald 38 ⟨u216, _, rfl⟩ rfl rfl ?_
      refine xgetR 41 75 hH ⟨u216, _, rfl⟩ rfl rfl ?_
      refine xild 42 ⟨u216, _, rfl⟩ rfl rfl ?_
      refine xiald 43 (wj).toInt.toNat hH ⟨u216, _, rfl⟩ rfl (by decide) rfl (by omega) (by omega) (fun z42 h42 => ?_)
      have a1 : z36.toInt = ((mN T i : Nat) : Int) := by rw [h36, show wi.toInt.toNat = i by omega]; exact LM i (by omega)
      have a2 : z42.toInt = ((mN T j : Nat) : Int) := by rw [h42, show wj.toInt.toNat = j by omega]; exact LM j (by omega)
      have w43 := (i_and a1 a2 mi.1).1
      refine xand 44 ⟨u216, _, rfl⟩ rfl ?_
      refine xif_ne 47 ⟨u216, _, rfl⟩ rfl (fun c44 => ?_) (fun c44 => ?_)
      · refine xild 51 ⟨u216, _, rfl⟩ rfl rfl ?_
        refine xcst 52 (1) ⟨u216, _, rfl⟩ rfl (by decide) (fun z51 h51 => ?_)
        refine xadd 53 _ ⟨u216, _, rfl⟩ rfl rfl (by omega) (by omega) (fun z52 h52 => ?_)
        refine xist 54 ⟨u216, _, rfl⟩ rfl rfl ?_
        refine l216kE hB0 hL0 H105 hwi hwj hij (by omega) (by omega) (fun hp1 v31 v41 v51 k1 k2 k3 => ?_) ((trL T 225).length - (j + 1)) (j + 1) _ hp _ _ (by omega) (by omega) (by omega) hH hF (rqN_to hN (fL_no (by omega) (fun c c1 c2 => qd_no (by omega))))
        refine xinc 129 (1) ⟨u216, _, rfl⟩ rfl rfl rfl (by decide) (by omega) (by omega) (fun z126 h126 => ?_)
        refine xgoto ⟨u216, _, rfl⟩ ?_
        exact ih (j + 1) _ hp1 _ _ _ (by omega) (by omega) (by omega) k1 k2 k3
      · refine xgoto ⟨u216, _, rfl⟩ ?_
        refine xinc 129 (1) ⟨u216, _, rfl⟩ rfl rfl rfl (by decide) (by omega) (by omega) (fun z126 h126 => ?_)
        refine xgoto ⟨u216, _, rfl⟩ ?_
        exact ih (j + 1) _ hp _ _ _ (by omega) (by omega) (by omega) hH hF (rqN_to hN (fL_no (by omega) (fun c c1 c2 => fun z => by
          have z := of_decide_eq_true z
          rw [show c / 1225 = i by omega, show c / 35 % 35 = j by omega] at z
          exact z.2.2.2.1 (by omega))))
