/-! ===== the reference reads its text ===== -/
theorem rSr_h {y : tY} {V : Nat} {T : sT} {s : Nat} {z : Int} {hp hp0 hp1 : amH} (h : rSr y V T s z hp hp1) (e2 : rN hp 66 25 = rN hp0 66 25) (e3 : ∀ i, 1 ≤ i → i < 4 → rN hp 67 i = rN hp0 67 i) : rSr y V T s z hp0 hp1 := by
  unfold rSr at h ⊢
  rw [e2] at h
  split
  · next e => rw [e] at h; exact h
  · next q e =>
    rw [e] at h
    exact ⟨h.1, h.2.1, h.2.2.1, h.2.2.2.1, h.2.2.2.2.1, fun i i1 i2 => (h.2.2.2.2.2 i i1 i2).trans (e3 i i1 i2)⟩
theorem t247 {d : Nat} {hp : amH} {R : xQ} {y : tY} {s V : Nat} {T : sT} {g k : Int32} (hH : bHk 84 bTT hp) (hP : P0 hp) (Y : rB hp = y) (hT : rT hp y (tN y s)) (hs : (s : Int) ≤ rN hp 66 21) (hB : rdOk hp V T) (h0 : rN hp 66 24 = 0) (hk : k.toInt = 0) (hwd : tWd y s wDev = true ∨ tWd y s wTri = true) (hdv : (g.toInt = 1 ∧ tWd y s wDev = true) ∨ (g.toInt = 0 ∧ tWd y s wTri = true))
    (hR : ∀ (z : Int32) hp1, bHk 84 bTT hp1 → P0 hp1 → bFr wRS hp hp1 → rSr y V T s z.toInt hp hp1 → R (.inl (some (.int z))) hp1) :
    xV (d + 5) am_m247 6 [some (.ref 66), some (.int g), some (.int k)] [] hp R := by
  have hok : tOk (rN hp 66 21).toNat y := by rw [← Y]; exact rB_ok hH
  have b0 := b21 hH
  have bV := hB.2.1.2.1
  have u1 := tN_le hok (s := s) (by omega)
  have u2 := tN_le hok (s := tN y s) (by omega)
  have u3 := tN_le hok (s := tN y (tN y s)) (by omega)
  have u4 := tN_le hok (s := tN y (tN y (tN y s))) (by omega)
  have sb : ∀ {a b : amH}, bFr wTK a b → bFr wRS a b := fun F => bFr_sub F (by decide)
  have rg : ∀ {s pre}, tNum y s 0 ((V : Int) - 1) pre = 0 → 0 ≤ tV y s ∧ tV y s < (V : Int) ∧ ¬ tV y s ∈ pre := fun {s pre} h => by
    unfold tNum at h
    split at h
    · cases h
    · split at h
      · cases h
      · split at h
        · cases h
        · next g => exact ⟨by omega, by omega, g⟩
  refine m247 (pre := []) (kk := 0) hH hP Y hT (by omega) hB h0 rfl (fun k hk => by omega) (by omega) (by decide) (fun z hp1 e1 e2 e3 e4 e5 e6 => hR z hp1 e3 (P0_tk e4 hP) (sb e4) (rSr_e (tSt_2 hwd e1) e2 e5 e6)) (fun k1 hp1 n1 H1 F1 T1 A1 C1 D1 E1 K1 => ?_)
  have q0 : rN hp1 66 21 = rN hp 66 21 := r_fr F1 rfl
  have B1 := rdOk_fr hB (fun i => (r_fr F1 rfl : rN hp1 67 i = rN hp 67 i))
  refine m247 (pre := [tV y (tN y s)]) (kk := 1) H1 (P0_tk F1 hP) (by rw [rB_tk F1, Y]) T1 (by omega) B1 A1 rfl (fun k hk => by rw [show k = 0 by omega]; exact E1) (by omega) (by decide) (fun z hp2 e1 e2 e3 e4 e5 e6 => hR z hp2 e3 (P0_tk e4 (P0_tk F1 hP)) (sb (F1.trans e4)) (rSr_e (tSt_3 hwd n1 e1) e2 e5 e6)) (fun k2 hp2 n2 H2 F2 T2 A2 C2 D2 E2 K2 => ?_)
  have q1 : rN hp2 66 21 = rN hp1 66 21 := r_fr F2 rfl
  have B2 := rdOk_fr B1 (fun i => (r_fr F2 rfl : rN hp2 67 i = rN hp1 67 i))
  have G2 := F1.trans F2
  refine m247 (pre := [tV y (tN y s), tV y (tN y (tN y s))]) (kk := 2) H2 (P0_tk G2 hP) (by rw [rB_tk G2, Y]) T2 (by omega) B2 A2 rfl (fun k hk => by rcases (by omega : k = 0 ∨ k = 1) with e | e; rw [e, D2 0 (by omega)]; exact E1; rw [e]; exact E2) (by omega) (by decide) (fun z hp3 e1 e2 e3 e4 e5 e6 => hR z hp3 e3 (P0_tk e4 (P0_tk G2 hP)) (sb (G2.trans e4)) (rSr_e (tSt_4 hwd n1 n2 e1) e2 e5 e6)) (fun k3 hp3 n3 H3 F3 T3 A3 C3 D3 E3 K3 => ?_)
  have q2 : rN hp3 66 21 = rN hp2 66 21 := r_fr F3 rfl
  have B3 := rdOk_fr B2 (fun i => (r_fr F3 rfl : rN hp3 67 i = rN hp2 67 i))
  have G3 := G2.trans F3
  obtain ⟨r1a, r1b, -⟩ := rg n1
  obtain ⟨r2a, r2b, r2n⟩ := rg n2
  obtain ⟨r3a, r3b, r3n⟩ := rg n3
  simp only [List.mem_singleton, List.mem_cons, List.not_mem_nil, or_false, not_or] at r2n r3n
  have w0 : rN hp3 81 0 = tV y (tN y s) := by rw [D3 0 (by omega), D2 0 (by omega)]; exact E1
  have w1 : rN hp3 81 1 = tV y (tN y (tN y s)) := by rw [D3 1 (by omega)]; exact E2
  exact f247 (v1 := (tV y (tN y s)).toNat) (v2 := (tV y (tN y (tN y s))).toNat) (v3 := (tV y (tN y (tN y (tN y s)))).toNat) H3 (P0_tk G3 hP) (sb G3) (by omega) (fun i _ _ => r_fr G3 rfl) (by rw [rB_tk G3, Y]) T3 (by omega) B3 A3 ⟨hwd, n1, n2, n3⟩ (by omega) (by omega) (by omega) (by omega) (by omega) (by omega) (by omega) (by omega) (by omega) (by omega) (by omega) (by omega) (by omega) hdv hR
theorem k_rrt {d : Nat} {hp : amH} {R : xQ} {y : tY} {s V : Nat} {T : sT} {g : Int32} (hH : bHk 84 bTT hp) (hP : P0 hp) (Y : rB hp = y) (hT : rT hp y s) (hs : (s : Int) ≤ rN hp 66 21) (hB : rdOk hp V T) (h0 : rN hp 66 24 = 0) (hwd : tWd y s wDev = true ∨ tWd y s wTri = true) (hdv : (g.toInt = 1 ∧ tWd y s wDev = true) ∨ (g.toInt = 0 ∧ tWd y s wTri = true))
    (hR : ∀ (z : Int32) hp1, bHk 84 bTT hp1 → P0 hp1 → bFr wRS hp hp1 → rSr y V T s z.toInt hp hp1 → R (.inl (some (.int z))) hp1) : xK (d + 5) 247 [.ref 66, .int g] hp R := by
  have hok : tOk (rN hp 66 21).toNat y := by rw [← Y]; exact rB_ok hH
  have b0 := b21 hH
  have w1 := tE_le hok (s := s) (by omega)
  refine xin (M := am_m247) rfl rfl rfl ?_
  refine xald 1 ⟨u247, _, rfl⟩ rfl rfl ?_
  refine xcall 4 [.ref 66] [] hH ⟨u247, _, rfl⟩ rfl rfl rfl rfl rfl (k_radv hH Y (p := tE y s) hT.2.1 (by omega) (fun hp1 hH1 F1 Y1 T1 => ⟨_, rfl, ?_⟩))
  refine xcst 5 (0) ⟨u247, _, rfl⟩ rfl (by decide) (fun z4 h4 => ?_)
  refine xist 6 ⟨u247, _, rfl⟩ rfl rfl ?_
  have G1 : bFr wRS hp hp1 := bFr_sub F1 (by decide)
  have n1 : rN hp1 66 21 = rN hp 66 21 := r_fr F1 rfl
  exact t247 hH1 (P0_W (W := wAdv) (by decide) F1 hP) Y1 T1 (by omega) (rdOk_fr hB (fun i => r_fr F1 rfl)) (by rw [show rN hp1 66 24 = rN hp 66 24 from r_fr F1 rfl]; exact h0) (by omega) hwd hdv (fun z hp2 g1 g2 g3 g4 => hR z hp2 g1 g2 (G1.trans g3) (rSr_h g4 (r_fr F1 rfl) (fun i _ _ => r_fr F1 rfl)))
theorem rSr_01 {y : tY} {V : Nat} {T : sT} {s : Nat} {z : Int} {hp hp1 : amH} (h : rSr y V T s z hp hp1) : z = 0 ∨ z = 1 := by
  unfold rSr at h
  split at h
  · exact Or.inl h.1
  · exact Or.inr h.1
theorem k_rrs {d : Nat} {hp : amH} {R : xQ} {y : tY} {s V : Nat} {T : sT} (hH : bHk 84 bTT hp) (hP : P0 hp) (Y : rB hp = y) (hT : rT hp y s) (hs : (s : Int) ≤ rN hp 66 21) (hB : rdOk hp V T) (h0 : rN hp 66 24 = 0)
    (hR : ∀ (z : Int32) hp1, bHk 84 bTT hp1 → P0 hp1 → bFr wRS hp hp1 → rSr y V T s z.toInt hp hp1 → R (.inl (some (.int z))) hp1) : xK (d + 6) 249 [.ref 66] hp R := by
  refine xin (M := am_m249) rfl rfl rfl ?_
  refine xald 1 ⟨u249, _, rfl⟩ rfl rfl ?_
  refine xldcW 3 ⟨u249, _, rfl⟩ rfl ?_
  refine xcall 6 [.ref 66, .ref 1000020] [] hH ⟨u249, _, rfl⟩ rfl rfl rfl rfl rfl (k_rw2 (l := wTri) rfl ⟨rfl, by decide⟩ hH Y hT hs (fun z3 h3 => ⟨_, rfl, ?_⟩))
  refine xif_eq 9 ⟨u249, _, rfl⟩ rfl (fun c6 => ?_) (fun c6 => ?_)
  · have nt : tWd y s wTri = false := by rcases h3 with g | g; omega; exact g.2
    refine xald 16 ⟨u249, _, rfl⟩ rfl rfl ?_
    refine xldcW3 19 ⟨u249, _, rfl⟩ rfl ?_
    refine xcall 22 [.ref 66, .ref 1000021] [] hH ⟨u249, _, rfl⟩ rfl rfl rfl rfl rfl (k_rw2 (l := wDev) rfl ⟨rfl, by decide⟩ hH Y hT hs (fun z19 h19 => ⟨_, rfl, ?_⟩))
    refine xif_eq 25 ⟨u249, _, rfl⟩ rfl (fun c22 => ?_) (fun c22 => ?_)
    · have nd : tWd y s wDev = false := by rcases h19 with g | g; omega; exact g.2
      refine xald 34 ⟨u249, _, rfl⟩ rfl rfl ?_
      refine xcst 35 (1) ⟨u249, _, rfl⟩ rfl (by decide) (fun z34 h34 => ?_)
      refine xcall 38 [.ref 66, .int _] [] hH ⟨u249, _, rfl⟩ rfl rfl rfl rfl rfl (k_rf hH h0 (fun z35 hp35 Z35 hH35 F35 A35 B35 => ⟨_, rfl, ?_⟩))
      exact xretB ⟨u249, _, rfl⟩ rfl (by omega) (hR _ hp35 hH35 (P0_tk (bFr_sub F35 (by decide)) hP) (bFr_sub F35 (by decide)) (rSr_e (tSt_1 (fun z => by rcases z with z | z; rw [nd] at z; cases z; rw [nt] at z; cases z)) (by omega) (by omega) (by rw [B35]; exact hT.1)))
    · have wd : tWd y s wDev = true := by rcases h19 with g | g; exact g.2; omega
      refine xald 26 ⟨u249, _, rfl⟩ rfl rfl ?_
      refine xcst 27 (1) ⟨u249, _, rfl⟩ rfl (by decide) (fun z26 h26 => ?_)
      refine xcall 30 [.ref 66, .int _] [] hH ⟨u249, _, rfl⟩ rfl rfl rfl rfl rfl (k_rrt hH hP Y hT hs hB h0 (Or.inl wd) (Or.inl ⟨by omega, wd⟩) (fun z27 hp27 hH27 hP27 F27 r27 => ⟨_, rfl, ?_⟩))
      refine xgoto ⟨u249, _, rfl⟩ ?_
      exact xretB ⟨u249, _, rfl⟩ rfl (rSr_01 r27) (hR _ hp27 hH27 hP27 F27 r27)
  · have wd : tWd y s wTri = true := by rcases h3 with g | g; exact g.2; omega
    refine xald 10 ⟨u249, _, rfl⟩ rfl rfl ?_
    refine xcst 11 (0) ⟨u249, _, rfl⟩ rfl (by decide) (fun z10 h10 => ?_)
    refine xcall 14 [.ref 66, .int _] [] hH ⟨u249, _, rfl⟩ rfl rfl rfl rfl rfl (k_rrt hH hP Y hT hs hB h0 (Or.inr wd) (Or.inr ⟨by omega, wd⟩) (fun z11 hp11 hH11 hP11 F11 r11 => ⟨_, rfl, ?_⟩))
    exact xretB ⟨u249, _, rfl⟩ rfl (rSr_01 r11) (hR _ hp11 hH11 hP11 F11 r11)
theorem Vf_new {r : Nat → Int} {v : Int} (h0 : r 0 = v) (h1 : 3 ≤ v) (h2 : v ≤ 15) (h : ∀ i, 4 ≤ i → i < 229 → r i = -1) : Vf r := ⟨by omega, by omega, fun a b ha hb => Or.inl (h _ (by omega) (by omega))⟩
def rPr (y : tY) (s : Nat) (z : Int) (hp hp1 : amH) : Prop := match tPt y s with
  | .inl e => z = 0 ∧ rN hp1 66 24 = e.1 ∧ rN hp1 66 25 = (e.2 : Int)
  | .inr V => z = 1 ∧ 3 ≤ V ∧ V ≤ 15 ∧ rdOk hp1 V sE ∧ rT hp1 y (tN y (tN y s)) ∧ rN hp1 66 24 = 0 ∧ rN hp1 66 25 = rN hp 66 25 ∧ ∀ i, 1 ≤ i → i < 4 → rN hp1 67 i = rN hp 67 i
theorem rPr_e {y : tY} {s : Nat} {z : Int} {hp hp1 : amH} {c : Int} {q : Nat} (e : tPt y s = .inl (c, q)) (hz : z = 0) (h1 : rN hp1 66 24 = c) (h2 : rN hp1 66 25 = (q : Int)) : rPr y s z hp hp1 := by
  unfold rPr
  rw [e]
  exact ⟨hz, h1, h2⟩
theorem k_rrp {d : Nat} {hp : amH} {R : xQ} {y : tY} {s : Nat} (hH : bHk 84 bTT hp) (hP : P0 hp) (hM : hE hp) (Y : rB hp = y) (hT : rT hp y s) (hs : (s : Int) ≤ rN hp 66 21) (h0 : rN hp 66 24 = 0)
    (hR : ∀ (z : Int32) hp1, bHk 84 bTT hp1 → P0 hp1 → bFr wRS hp hp1 → rPr y s z.toInt hp hp1 → R (.inl (some (.int z))) hp1) : xK (d + 3) 248 [.ref 66] hp R := by
  have hok : tOk (rN hp 66 21).toNat y := by rw [← Y]; exact rB_ok hH
  have b0 := b21 hH
  have w1 := tE_le hok (s := s) (by omega)
  have u1 := tN_le hok (s := s) (by omega)
  refine xin (M := am_m248) rfl rfl rfl ?_
  refine xald 1 ⟨u248, _, rfl⟩ rfl rfl ?_
  refine xldcW 3 ⟨u248, _, rfl⟩ rfl ?_
  refine xcall 6 [.ref 66, .ref 1000019] [] hH ⟨u248, _, rfl⟩ rfl rfl rfl rfl rfl (k_rw2 (l := wPts) rfl ⟨rfl, by decide⟩ hH Y hT hs (fun z3 h3 => ⟨_, rfl, ?_⟩))
  refine xif_ne 9 ⟨u248, _, rfl⟩ rfl (fun c6 => ?_) (fun c6 => ?_)
  · have wT : ¬ ¬ tWd y s wPts = true := by rcases h3 with g | g; exact fun z => z g.2; omega
    refine xald 16 ⟨u248, _, rfl⟩ rfl rfl ?_
    refine xcall 19 [.ref 66] [] hH ⟨u248, _, rfl⟩ rfl rfl rfl rfl rfl (k_radv hH Y (p := tE y s) hT.2.1 (by omega) (fun hp16 hH16 F16 Y16 T16 => ⟨_, rfl, ?_⟩))
    have n16 : rN hp16 66 21 = rN hp 66 21 := r_fr F16 rfl
    have m16 : rN hp16 66 24 = rN hp 66 24 := r_fr F16 rfl
    have T16 : rT hp16 y (tN y s) := T16
    refine xald 20 ⟨u248, _, rfl⟩ rfl rfl ?_
    refine xcst 21 (0) ⟨u248, _, rfl⟩ rfl (by decide) (fun z20 h20 => ?_)
    refine xcst 22 (3) ⟨u248, _, rfl⟩ rfl (by decide) (fun z21 h21 => ?_)
    refine xbip 24 (15) ⟨u248, _, rfl⟩ rfl (by decide) (fun z22 h22 => ?_)
    refine xcall 27 [.ref 66, .int _, .int _, .int _] [] hH16 ⟨u248, _, rfl⟩ rfl rfl rfl rfl rfl (k_tkp hH16 Y16 T16 (by omega) (by omega) (tt := 0) (pre := []) h20 (by omega) rfl (fun k hk => by omega) (fun z24 hp24 hH24 F24 r24 => ⟨_, rfl, ?_⟩))
    rw [h21, h22] at r24
    refine xif_ne 30 ⟨u248, _, rfl⟩ rfl (fun c27 => ?_) (fun c27 => ?_)
    · obtain ⟨r1, r2, r3, r4, T24, r6, r7⟩ := r24.resolve_right (fun z => by omega)
      have T24 : rT hp24 y (tN y (tN y s)) := T24
      have K24 := T24.2.2.1
      have rng : 3 ≤ tV y (tN y s) ∧ tV y (tN y s) ≤ 15 := by
        unfold tNum at r1
        split at r1
        · cases r1
        · split at r1
          · cases r1
          · omega
      have P24 : P0 hp24 := P0_tk F24 (P0_W (W := wAdv) (by decide) F16 hP)
      refine xald 33 ⟨u248, _, rfl⟩ rfl rfl ?_
      refine xgetR 36 67 hH24 ⟨u248, _, rfl⟩ rfl rfl ?_
      refine xcst 37 (0) ⟨u248, _, rfl⟩ rfl (by decide) (fun z36 h36 => ?_)
      refine xald 38 ⟨u248, _, rfl⟩ rfl rfl ?_
      refine xgetR 41 81 hH24 ⟨u248, _, rfl⟩ rfl rfl ?_
      refine xcst 42 (0) ⟨u248, _, rfl⟩ rfl (by decide) (fun z41 h41 => ?_)
      refine xiald 43 (z41).toInt.toNat hH24 ⟨u248, _, rfl⟩ rfl (by decide) rfl (by omega) (by omega) (fun z42 h42 => ?_)
      have bm := aMin z42
      have bx := aMax z42
      refine xiast 44 (z36).toInt.toNat hH24 ⟨u248, _, rfl⟩ rfl (by decide) rfl (by omega) (by omega) (by omega) (by omega) (fun hp43 hH43 U43 => ?_)
      have s43 := U43.1
      have v42 : z42.toInt = tV y (tN y s) := by rw [h42, show z41.toInt.toNat = 0 by omega]; exact r3
      have e43 : rN hp43 67 0 = tV y (tN y s) := by have e := U43.1; rw [show z36.toInt.toNat = 0 by omega] at e; omega
      have F43 : bFr [(67, 999)] hp24 hp43 := rU_fr U43 (bIn_all (by decide) _)
      have P43 : P0 hp43 := P0_67 F43 P24 (Vf_new e43 rng.1 rng.2 (fun i i1 i2 => by rw [rU_ne U43 (by omega), show rN hp24 67 i = rN hp16 67 i from r_fr F24 rfl, show rN hp16 67 i = rN hp 67 i from r_fr F16 rfl]; exact hM i i1 i2))
      have D43 : rdOk hp43 (tV y (tN y s)).toNat sE := ⟨by omega, sOk_E (by omega) (by omega), fun u v hu hv => by unfold tT; rw [rU_ne U43 (by omega), show rN hp24 67 (4 + 15 * u + v) = rN hp16 67 (4 + 15 * u + v) from r_fr F24 rfl, show rN hp16 67 (4 + 15 * u + v) = rN hp 67 (4 + 15 * u + v) from r_fr F16 rfl]; exact hM _ (by omega) (by omega), fun u v _ => rfl⟩
      refine xald 45 ⟨u248, _, rfl⟩ rfl rfl ?_
      refine xgetI 48 hH43 ⟨u248, _, rfl⟩ rfl rfl (fun z45 h45 => ?_)
      refine xcst 49 (3) ⟨u248, _, rfl⟩ rfl (by decide) (fun z48 h48 => ?_)
      refine xcmp_eq 52 ⟨u248, _, rfl⟩ rfl (fun c49 => ?_) (fun c49 => ?_)
      · have z29 : z45.toInt = rN hp24 66 29 := by rw [h45, rU_ne U43 (by omega)]
        have k3 : tK y (tN y (tN y s)) = 3 := by omega
        refine xcst 61 (1) ⟨u248, _, rfl⟩ rfl (by decide) (fun z60 h60 => ?_)
        refine xgoto ⟨u248, _, rfl⟩ ?_
        exact xretB ⟨u248, _, rfl⟩ rfl (by omega) (hR _ hp43 hH43 P43 (((bFr_sub F16 (by decide) : bFr wRS hp hp16).trans (bFr_sub F24 (by decide))).trans (bFr_sub F43 (by decide))) (by unfold rPr; rw [show tPt y s = .inr (tV y (tN y s)).toNat by unfold tPt; rw [if_neg wT, if_neg (fun z => z r1), if_neg (fun z => z k3)]]; exact ⟨by omega, by omega, by omega, D43, rT_67 T24 F43, by rw [rU_ne U43 (by omega)]; exact r6, by rw [rU_ne U43 (by omega), r7]; exact r_fr F16 rfl, fun i i1 i2 => by rw [rU_ne U43 (by omega), show rN hp24 67 i = rN hp16 67 i from r_fr F24 rfl]; exact r_fr F16 rfl⟩))
      · have z29 : z45.toInt = rN hp24 66 29 := by rw [h45, rU_ne U43 (by omega)]
        refine xald 53 ⟨u248, _, rfl⟩ rfl rfl ?_
        refine xcst 54 (1) ⟨u248, _, rfl⟩ rfl (by decide) (fun z53 h53 => ?_)
        refine xcall 57 [.ref 66, .int _] [] hH43 ⟨u248, _, rfl⟩ rfl rfl rfl rfl rfl (k_rf hH43 (by rw [rU_ne U43 (by omega)]; exact r6) (fun z54 hp54 Z54 hH54 F54 A54 B54 => ⟨_, rfl, ?_⟩))
        refine xif_eq 60 ⟨u248, _, rfl⟩ rfl (fun c57 => ?_) (fun c57 => ?_)
        · refine xcst 65 (0) ⟨u248, _, rfl⟩ rfl (by decide) (fun z64 h64 => ?_)
          exact xretB ⟨u248, _, rfl⟩ rfl (by omega) (hR _ hp54 hH54 (P0_tk (bFr_sub F54 (by decide)) P43) (((bFr_sub F16 (by decide) : bFr wRS hp hp16).trans (bFr_sub F24 (by decide))).trans ((bFr_sub F43 (by decide)).trans (bFr_sub F54 (by decide)))) (rPr_e (by unfold tPt; rw [if_neg wT, if_neg (fun z => z r1), if_pos (fun z => c49 (by omega))]) (by omega) (by omega) (by rw [B54, rU_ne U43 (by omega)]; exact T24.1)))
        · omega
    · have P24 : P0 hp24 := P0_tk F24 (P0_W (W := wAdv) (by decide) F16 hP)
      refine xcst 31 (0) ⟨u248, _, rfl⟩ rfl (by decide) (fun z30 h30 => ?_)
      rcases r24 with r | ⟨r1, r2, r3, r4⟩
      · omega
      · exact xretB ⟨u248, _, rfl⟩ rfl (by omega) (hR _ hp24 hH24 P24 ((bFr_sub F16 (by decide) : bFr wRS hp hp16).trans (bFr_sub F24 (by decide))) (rPr_e (by unfold tPt; rw [if_neg wT, if_pos r1]) (by omega) r3 r4))
  · refine xald 10 ⟨u248, _, rfl⟩ rfl rfl ?_
    refine xcst 11 (1) ⟨u248, _, rfl⟩ rfl (by decide) (fun z10 h10 => ?_)
    refine xcall 14 [.ref 66, .int _] [] hH ⟨u248, _, rfl⟩ rfl rfl rfl rfl rfl (k_rf hH h0 (fun z11 hp11 Z11 hH11 F11 A11 B11 => ⟨_, rfl, ?_⟩))
    exact xretB ⟨u248, _, rfl⟩ rfl (by omega) (hR _ hp11 hH11 (P0_tk (bFr_sub F11 (by decide)) hP) (bFr_sub F11 (by decide)) (rPr_e (by unfold tPt; rw [if_pos (by rcases h3 with g | g; omega; rw [g.2]; decide)]) (by omega) (by omega) (by rw [B11]; exact hT.1)))
