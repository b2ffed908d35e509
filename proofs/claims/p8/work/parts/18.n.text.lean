/-! ===== ways by hand: points, statements, text read ===== -/
def hE (hp : amH) : Prop := ∀ i, 4 ≤ i → i < 229 → rN hp 67 i = -1
theorem hE_V {hp : amH} (h : hE hp) (h0 : 3 ≤ rN hp 67 0) (h1 : rN hp 67 0 ≤ 15) : Vf (rN hp 67) := ⟨h0, h1, fun a b ha hb => Or.inl (h _ (by omega) (by omega))⟩
theorem ST_tp {hp hp1 : amH} {t : Nat} {mn mx z : Int} (V : TPt hp hp1 t mn mx z) : ST hp hp1 := ⟨bFr_sub V.1 (by decide), V.2.1, V.2.2.1⟩
theorem ST_adv {hp hp1 : amH} (V : AV hp hp1) : ST hp hp1 := ⟨bFr_sub V.1 (by decide), V.2.1, V.2.2.1⟩
theorem ST_tr {hp hp1 hp2 : amH} (h1 : ST hp hp1) (h2 : ST hp1 hp2) : ST hp hp2 := ⟨h1.1.trans h2.1, h2.2.1, Int.le_trans h1.2.2 h2.2.2⟩
theorem ST_f67 {hp hp1 : amH} (hA : PA hp) (g3 : bFr wF67 hp hp1) : ST hp hp1 := ⟨bFr_sub g3 (by decide), PA_e (r_fr g3 rfl) (r_fr g3 rfl) (r_fr g3 rfl) hA, Int.le_of_eq (r_fr g3 rfl).symm⟩
theorem k_rp {d : Nat} {hp : amH} {R : xQ} (hH : bHk 84 bTT hp) (hP : P0 hp) (hA : PA hp) (hM : hE hp) (hR : ∀ (z : Int32) hp1, bHk 84 bTT hp1 → P0 hp1 → ST hp hp1 → (z.toInt = 0 ∨ z.toInt = 1) → R (.inl (some (.int z))) hp1) : xK (d + 3) 248 [.ref 66] hp R := by
  refine xin (M := am_m248) rfl rfl rfl ?_
  refine xald 1 ⟨u248, _, rfl⟩ rfl rfl ?_
  refine xldcW 3 ⟨u248, _, rfl⟩ rfl ?_
  refine xcall 6 [.ref 66, .ref (amK + 19)] [] hH ⟨u248, _, rfl⟩ rfl rfl rfl rfl rfl (k_isw rfl ⟨rfl, by decide⟩ hH hA (fun z3 h3 => ⟨_, rfl, ?_⟩))
  refine xif_ne 9 ⟨u248, _, rfl⟩ rfl (fun c6 => ?_) (fun c6 => ?_)
  · refine xald 16 ⟨u248, _, rfl⟩ rfl rfl ?_
    refine xcall 19 [.ref 66] [] hH ⟨u248, _, rfl⟩ rfl rfl rfl rfl rfl (k_adv hH hA.2.2.1 (fun hp16 hH16 V16 => ⟨_, rfl, ?_⟩))
    refine xald 20 ⟨u248, _, rfl⟩ rfl rfl ?_
    refine xcst 21 (0) ⟨u248, _, rfl⟩ rfl (by decide) (fun z20 h20 => ?_)
    refine xcst 22 (3) ⟨u248, _, rfl⟩ rfl (by decide) (fun z21 h21 => ?_)
    refine xbip 24 (15) ⟨u248, _, rfl⟩ rfl (by decide) (fun z22 h22 => ?_)
    refine xcall 27 [.ref 66, .int _, .int _, .int _] [] hH16 ⟨u248, _, rfl⟩ rfl rfl rfl rfl rfl (k_tp hH16 V16.2.1 (by omega) (by omega) (fun z24 hp24 hH24 V24 => ⟨_, rfl, ?_⟩))
    have P24 : P0 hp24 := P0_W (W := wTK) (by decide) V24.1 (P0_W (W := wAdv) (by decide) V16.1 hP)
    have S24 : ST hp hp24 := ST_tr (ST_adv V16) (ST_tp V24)
    refine xif_ne 30 ⟨u248, _, rfl⟩ rfl (fun c27 => ?_) (fun c27 => ?_)
    · have V24d : 3 ≤ rN hp24 81 0 ∧ rN hp24 81 0 ≤ 15 := by
        have v := V24.2.2.2
        rw [show z20.toInt.toNat = 0 by omega] at v
        rcases v with v | ⟨-, v1, v2, -⟩
        · exact absurd v c27
        · omega
      refine xald 33 ⟨u248, _, rfl⟩ rfl rfl ?_
      refine xgetR 36 67 hH24 ⟨u248, _, rfl⟩ rfl rfl ?_
      refine xcst 37 (0) ⟨u248, _, rfl⟩ rfl (by decide) (fun z36 h36 => ?_)
      refine xald 38 ⟨u248, _, rfl⟩ rfl rfl ?_
      refine xgetR 41 81 hH24 ⟨u248, _, rfl⟩ rfl rfl ?_
      refine xcst 42 (0) ⟨u248, _, rfl⟩ rfl (by decide) (fun z41 h41 => ?_)
      refine xiald 43 0 hH24 ⟨u248, _, rfl⟩ rfl (by decide) rfl (by omega) (by omega) (fun z42 h42 => ?_)
      refine xiast 44 0 hH24 ⟨u248, _, rfl⟩ rfl (by decide) rfl (by omega) (by omega) (by omega) (by omega) (fun hp43 hH43 U43 => ?_)
      have S43 : ST hp hp43 := ST_tr S24 (ST_f67 S24.2.1 (rU_fr U43 (bIn_all (by decide) _)))
      have s43 := U43.1
      have P43 : P0 hp43 := P0_67 (rU_fr U43 (bIn_all (by decide) _)) P24 (hE_V (fun i hi hi2 => by
        rw [show rN hp43 67 i = rN hp24 67 i from rU_ne U43 (by omega), show rN hp24 67 i = rN hp16 67 i from r_fr V24.1 rfl, show rN hp16 67 i = rN hp 67 i from r_fr V16.1 rfl]
        exact hM i hi hi2) (by omega) (by omega))
      refine xald 45 ⟨u248, _, rfl⟩ rfl rfl ?_
      refine xgetI 48 hH43 ⟨u248, _, rfl⟩ rfl rfl (fun z45 h45 => ?_)
      refine xcst 49 (3) ⟨u248, _, rfl⟩ rfl (by decide) (fun z48 h48 => ?_)
      refine xcmp_eq 52 ⟨u248, _, rfl⟩ rfl (fun c49 => ?_) (fun c49 => ?_)
      · refine xcst 61 (1) ⟨u248, _, rfl⟩ rfl (by decide) (fun z60 h60 => ?_)
        refine xgoto ⟨u248, _, rfl⟩ ?_
        exact xretB ⟨u248, _, rfl⟩ rfl (by omega) (hR _ hp43 hH43 P43 S43 (by omega))
      · refine xald 53 ⟨u248, _, rfl⟩ rfl rfl ?_
        refine xcst 54 (1) ⟨u248, _, rfl⟩ rfl (by decide) (fun z53 h53 => ?_)
        refine xcall 57 [.ref 66, .int _] [] hH43 ⟨u248, _, rfl⟩ rfl rfl rfl rfl rfl (k_fa hH43 (fun z54 hp54 h54 hH54 F54 => ⟨_, rfl, ?_⟩))
        refine xif_eq 60 ⟨u248, _, rfl⟩ rfl (fun c57 => ?_) (fun c57 => ?_)
        · refine xcst 65 (0) ⟨u248, _, rfl⟩ rfl (by decide) (fun z64 h64 => ?_)
          exact xretB ⟨u248, _, rfl⟩ rfl (by omega) (hR _ hp54 hH54 (P0_W (W := wFa) (by decide) F54 P43) (ST_tr S43 (ST_f67 S43.2.1 (bFr_sub F54 (by decide)))) (by omega))
        · refine xcst 61 (1) ⟨u248, _, rfl⟩ rfl (by decide) (fun z60 h60 => ?_)
          refine xgoto ⟨u248, _, rfl⟩ ?_
          exact xretB ⟨u248, _, rfl⟩ rfl (by omega) (hR _ hp54 hH54 (P0_W (W := wFa) (by decide) F54 P43) (ST_tr S43 (ST_f67 S43.2.1 (bFr_sub F54 (by decide)))) (by omega))
    · refine xcst 31 (0) ⟨u248, _, rfl⟩ rfl (by decide) (fun z30 h30 => ?_)
      exact xretB ⟨u248, _, rfl⟩ rfl (by omega) (hR _ hp24 hH24 P24 S24 (by omega))
  · refine xald 10 ⟨u248, _, rfl⟩ rfl rfl ?_
    refine xcst 11 (1) ⟨u248, _, rfl⟩ rfl (by decide) (fun z10 h10 => ?_)
    refine xcall 14 [.ref 66, .int _] [] hH ⟨u248, _, rfl⟩ rfl rfl rfl rfl rfl (k_fa hH (fun z11 hp11 h11 hH11 F11 => ⟨_, rfl, ?_⟩))
    exact xretB ⟨u248, _, rfl⟩ rfl (by omega) (hR _ hp11 hH11 (P0_W (W := wFa) (by decide) F11 hP) (ST_f67 hA (bFr_sub F11 (by decide))) (by omega))
theorem k_rs {d : Nat} {hp : amH} {R : xQ} (hH : bHk 84 bTT hp) (hP : P0 hp) (hA : PA hp) (hR : ∀ (z : Int32) hp1, bHk 84 bTT hp1 → P0 hp1 → ST hp hp1 → (z.toInt = 0 ∨ z.toInt = 1) → R (.inl (some (.int z))) hp1) : xK (d + 6) 249 [.ref 66] hp R := by
  refine xin (M := am_m249) rfl rfl rfl ?_
  refine xald 1 ⟨u249, _, rfl⟩ rfl rfl ?_
  refine xldcW 3 ⟨u249, _, rfl⟩ rfl ?_
  refine xcall 6 [.ref 66, .ref (amK + 20)] [] hH ⟨u249, _, rfl⟩ rfl rfl rfl rfl rfl (k_isw rfl ⟨rfl, by decide⟩ hH hA (fun z3 h3 => ⟨_, rfl, ?_⟩))
  refine xif_eq 9 ⟨u249, _, rfl⟩ rfl (fun c6 => ?_) (fun c6 => ?_)
  · refine xald 16 ⟨u249, _, rfl⟩ rfl rfl ?_
    refine xldcW3 19 ⟨u249, _, rfl⟩ rfl ?_
    refine xcall 22 [.ref 66, .ref (amK + 21)] [] hH ⟨u249, _, rfl⟩ rfl rfl rfl rfl rfl (k_isw rfl ⟨rfl, by decide⟩ hH hA (fun z19 h19 => ⟨_, rfl, ?_⟩))
    refine xif_eq 25 ⟨u249, _, rfl⟩ rfl (fun c22 => ?_) (fun c22 => ?_)
    · refine xald 34 ⟨u249, _, rfl⟩ rfl rfl ?_
      refine xcst 35 (1) ⟨u249, _, rfl⟩ rfl (by decide) (fun z34 h34 => ?_)
      refine xcall 38 [.ref 66, .int _] [] hH ⟨u249, _, rfl⟩ rfl rfl rfl rfl rfl (k_fa hH (fun z35 hp35 h35 hH35 F35 => ⟨_, rfl, ?_⟩))
      exact xretB ⟨u249, _, rfl⟩ rfl (by omega) (hR _ hp35 hH35 (P0_W (W := wFa) (by decide) F35 hP) (ST_f67 hA (bFr_sub F35 (by decide))) (by omega))
    · refine xald 26 ⟨u249, _, rfl⟩ rfl rfl ?_
      refine xcst 27 (1) ⟨u249, _, rfl⟩ rfl (by decide) (fun z26 h26 => ?_)
      refine xcall 30 [.ref 66, .int _] [] hH ⟨u249, _, rfl⟩ rfl rfl rfl rfl rfl (k_rt hH hP hA (fun z27 hp27 hH27 hP27 S27 h27 => ⟨_, rfl, ?_⟩))
      refine xgoto ⟨u249, _, rfl⟩ ?_
      exact xretB ⟨u249, _, rfl⟩ rfl (by omega) (hR _ hp27 hH27 hP27 S27 (by omega))
  · refine xald 10 ⟨u249, _, rfl⟩ rfl rfl ?_
    refine xcst 11 (0) ⟨u249, _, rfl⟩ rfl (by decide) (fun z10 h10 => ?_)
    refine xcall 14 [.ref 66, .int _] [] hH ⟨u249, _, rfl⟩ rfl rfl rfl rfl rfl (k_rt hH hP hA (fun z11 hp11 hH11 hP11 S11 h11 => ⟨_, rfl, ?_⟩))
    exact xretB ⟨u249, _, rfl⟩ rfl (by omega) (hR _ hp11 hH11 hP11 S11 (by omega))
theorem l250 {d : Nat} {hp0 : amH} {R : xQ} (hR : ∀ (z : Int32) hp1, bHk 84 bTT hp1 → P0 hp1 → ST hp0 hp1 → (z.toInt = 0 ∨ z.toInt = 1) → R (.inl (some (.int z))) hp1) :
    ∀ (jj : Nat) (hp : amH), bHk 84 bTT hp → P0 hp → ST hp0 hp → ((rN hp 66 29 = 0 ∧ rN hp 66 21 - rN hp 66 26 ≤ (jj : Int)) ∨ rN hp 66 21 - rN hp 66 26 + 1 ≤ (jj : Int)) → xV (d + 7) am_m250 13 [some (.ref 66)] [] hp R := by
  intro jj
  induction jj using Nat.strongRecOn with
  | ind jj ih =>
    intro hp hH hP hS hm
    have hA := hS.2.1
    have hA4 := hA.2.2.1
    refine xald 14 ⟨u250, _, rfl⟩ rfl rfl ?_
    refine xgetI 17 hH ⟨u250, _, rfl⟩ rfl rfl (fun z14 h14 => ?_)
    refine xif_eq 20 ⟨u250, _, rfl⟩ rfl (fun c17 => ?_) (fun c17 => ?_)
    · refine xcst 37 (1) ⟨u250, _, rfl⟩ rfl (by decide) (fun z36 h36 => ?_)
      exact xretB ⟨u250, _, rfl⟩ rfl (by omega) (hR _ hp hH hP hS (by omega))
    · refine xald 21 ⟨u250, _, rfl⟩ rfl rfl ?_
      refine xcall 24 [.ref 66] [] hH ⟨u250, _, rfl⟩ rfl rfl rfl rfl rfl (k_rs hH hP hA (fun z21 hp21 hH21 hP21 S21 h21 => ⟨_, rfl, ?_⟩))
      refine xif_ne 27 ⟨u250, _, rfl⟩ rfl (fun c24 => ?_) (fun c24 => ?_)
      · refine xald 30 ⟨u250, _, rfl⟩ rfl rfl ?_
        refine xcall 33 [.ref 66] [] hH21 ⟨u250, _, rfl⟩ rfl rfl rfl rfl rfl (k_adv hH21 S21.2.1.2.2.1 (fun hp30 hH30 V30 => ⟨_, rfl, ?_⟩))
        refine xgoto ⟨u250, _, rfl⟩ ?_
        have w := V30.2.2.2
        have w2 := S21.2.2
        have w3 : rN hp30 66 21 = rN hp 66 21 := (r_fr V30.1 rfl).trans (r_fr S21.1 rfl)
        have w4 := V30.2.2.1
        exact ih (jj - 1) (by omega) hp30 hH30 (P0_W (W := wAdv) (by decide) V30.1 hP21) (ST_tr hS (ST_tr S21 (ST_adv V30))) (by omega)
      · refine xcst 28 (0) ⟨u250, _, rfl⟩ rfl (by decide) (fun z27 h27 => ?_)
        exact xretB ⟨u250, _, rfl⟩ rfl (by omega) (hR _ hp21 hH21 hP21 (ST_tr hS S21) (by omega))
theorem k_rx {d : Nat} {hp : amH} {R : xQ} (hH : bHk 84 bTT hp) (hP : P0 hp) (hA : PA hp) (hM : hE hp) (hR : ∀ (z : Int32) hp1, bHk 84 bTT hp1 → P0 hp1 → ST hp hp1 → (z.toInt = 0 ∨ z.toInt = 1) → R (.inl (some (.int z))) hp1) : xK (d + 7) 250 [.ref 66] hp R := by
  refine xin (M := am_m250) rfl rfl rfl ?_
  refine xald 1 ⟨u250, _, rfl⟩ rfl rfl ?_
  refine xcall 4 [.ref 66] [] hH ⟨u250, _, rfl⟩ rfl rfl rfl rfl rfl (k_rp hH hP hA hM (fun z1 hp1 hH1 hP1 S1 h1 => ⟨_, rfl, ?_⟩))
  refine xif_ne 7 ⟨u250, _, rfl⟩ rfl (fun c4 => ?_) (fun c4 => ?_)
  · refine xald 10 ⟨u250, _, rfl⟩ rfl rfl ?_
    refine xcall 13 [.ref 66] [] hH1 ⟨u250, _, rfl⟩ rfl rfl rfl rfl rfl (k_adv hH1 S1.2.1.2.2.1 (fun hp10 hH10 V10 => ⟨_, rfl, ?_⟩))
    exact l250 (hp0 := hp) hR (rN hp10 66 21 - rN hp10 66 26 + 1).toNat hp10 hH10 (P0_W (W := wAdv) (by decide) V10.1 hP1) (ST_tr S1 (ST_adv V10)) (Or.inr (by omega))
  · refine xcst 8 (0) ⟨u250, _, rfl⟩ rfl (by decide) (fun z7 h7 => ?_)
    exact xretB ⟨u250, _, rfl⟩ rfl (by omega) (hR _ hp1 hH1 hP1 S1 (by omega))
