/-! ##### 19.m.017.26p ##### -/
section
/-! ===== the reference reads its text ===== -/
theorem rSr_h {y : tY} {V : Nat} {T : sT} {s : Nat} {z : Int} {hp hp0 hp1 : amH} (h : rSr y V T s z hp hp1) (e2 : rN hp 66 25 = rN hp0 66 25) (e3 : ∀ i, 1 ≤ i → i < 4 → rN hp 67 i = rN hp0 67 i) : rSr y V T s z hp0 hp1 := by
  unfold rSr at h ⊢
  rw [e2] at h
  split
  · next e => rw [e] at h; exact h
  · next q e =>
    rw [e] at h
    exact ⟨h.1, h.2.1, h.2.2.1, h.2.2.2.1, h.2.2.2.2.1, fun i i1 i2 => (h.2.2.2.2.2 i i1 i2).trans (e3 i i1 i2)⟩
theorem t247 {d : Nat} {hp : amH} {R : xQ} {y : tY} {s V : Nat} {T : sT} {g k : Int32} (hH : bHk 84 bTT hp) (hP : P0 hp) (Y : rB hp = y) (hT : rT hp y (tN y s)) (hs : (s : Int) ≤ rN hp 66 21) (hB : rdOk hp V T) (h0 : rN hp 66 24 = 0) (hk : k.toInt = 0) (hwd : tWd y s wDev = true ∨ tWd y s wTri = true) (hdv : (g.toInt = 1 ∧ tWd y s wDev = true) ∨ (g.toInt = 0 ∧ tWd y s wTri = true))
    (hR : ∀ (z : Int32) hp1, bHk 84 bTT hp1 → P0 hp1 → bFr wRS hp hp1 → rSr y V T s z.toInt hp hp1 → R (.inl (some (.int z))) hp1) :
    xV (d + 5) am_m247 6 [some (.ref 66), some (.int g), some (.int k)] [] hp R := by
  have hok : tOk (rN hp 66 21).toNat y := by rw [← Y]; exact rB_ok hH
  have b0 := b21 hH
  have bV := hB.2.1.2.1
  have u1 := tN_le hok (s := s) (by omega)
  have u2 := tN_le hok (s := tN y s) (by omega)
  have u3 := tN_le hok (s := tN y (tN y s)) (by omega)
  have u4 := tN_le hok (s := tN y (tN y (tN y s))) (by omega)
  have sb : ∀ {a b : amH}, bFr wTK a b → bFr wRS a b := fun F => bFr_sub F (by decide)
  have rg : ∀ {s pre}, tNum y s 0 ((V : Int) - 1) pre = 0 → 0 ≤ tV y s ∧ tV y s < (V : Int) ∧ ¬ tV y s ∈ pre := fun {s pre} h => by
    unfold tNum at h
    split at h
    · cases h
    · split at h
      · cases h
      · split at h
        · cases h
        · next g => exact ⟨by omega, by omega, g⟩
  refine m247 (pre := []) (kk := 0) hH hP Y hT (by omega) hB h0 rfl (fun k hk => by omega) (by omega) (by decide) (fun z hp1 e1 e2 e3 e4 e5 e6 => hR z hp1 e3 (P0_tk e4 hP) (sb e4) (rSr_e (tSt_2 hwd e1) e2 e5 e6)) (fun k1 hp1 n1 H1 F1 T1 A1 C1 D1 E1 K1 => ?_)
  have q0 : rN hp1 66 21 = rN hp 66 21 := r_fr F1 rfl
  have B1 := rdOk_fr hB (fun i => (r_fr F1 rfl : rN hp1 67 i = rN hp 67 i))
  refine m247 (pre := [tV y (tN y s)]) (kk := 1) H1 (P0_tk F1 hP) (by rw [rB_tk F1, Y]) T1 (by omega) B1 A1 rfl (fun k hk => by rw [show k = 0 by omega]; exact E1) (by omega) (by decide) (fun z hp2 e1 e2 e3 e4 e5 e6 => hR z hp2 e3 (P0_tk e4 (P0_tk F1 hP)) (sb (F1.trans e4)) (rSr_e (tSt_3 hwd n1 e1) e2 e5 e6)) (fun k2 hp2 n2 H2 F2 T2 A2 C2 D2 E2 K2 => ?_)
  have q1 : rN hp2 66 21 = rN hp1 66 21 := r_fr F2 rfl
  have B2 := rdOk_fr B1 (fun i => (r_fr F2 rfl : rN hp2 67 i = rN hp1 67 i))
  have G2 := F1.trans F2
  refine m247 (pre := [tV y (tN y s), tV y (tN y (tN y s))]) (kk := 2) H2 (P0_tk G2 hP) (by rw [rB_tk G2, Y]) T2 (by omega) B2 A2 rfl (fun k hk => by rcases (by omega : k = 0 ∨ k = 1) with e | e; rw [e, D2 0 (by omega)]; exact E1; rw [e]; exact E2) (by omega) (by decide) (fun z hp3 e1 e2 e3 e4 e5 e6 => hR z hp3 e3 (P0_tk e4 (P0_tk G2 hP)) (sb (G2.trans e4)) (rSr_e (tSt_4 hwd n1 n2 e1) e2 e5 e6)) (fun k3 hp3 n3 H3 F3 T3 A3 C3 D3 E3 K3 => ?_)
  have q2 : rN hp3 66 21 = rN hp2 66 21 := r_fr F3 rfl
  have B3 := rdOk_fr B2 (fun i => (r_fr F3 rfl : rN hp3 67 i = rN hp2 67 i))
  have G3 := G2.trans F3
  obtain ⟨r1a, r1b, -⟩ := rg n1
  obtain ⟨r2a, r2b, r2n⟩ := rg n2
  obtain ⟨r3a, r3b, r3n⟩ := rg n3
  simp only [List.mem_singleton, List.mem_cons, List.not_mem_nil, or_false, not_or] at r2n r3n
  have w0 : rN hp3 81 0 = tV y (tN y s) := by rw [D3 0 (by omega), D2 0 (by omega)]; exact E1
  have w1 : rN hp3 81 1 = tV y (tN y (tN y s)) := by rw [D3 1 (by omega)]; exact E2
  exact f247 (v1 := (tV y (tN y s)).toNat) (v2 := (tV y (tN y (tN y s))).toNat) (v3 := (tV y (tN y (tN y (tN y s)))).toNat) H3 (P0_tk G3 hP) (sb G3) (by omega) (fun i _ _ => r_fr G3 rfl) (by rw [rB_tk G3, Y]) T3 (by omega) B3 A3 ⟨hwd, n1, n2, n3⟩ (by omega) (by omega) (by omega) (by omega) (by omega) (by omega) (by omega) (by omega) (by omega) (by omega) (by omega) (by omega) (by omega) hdv hR
theorem k_rrt {d : Nat} {hp : amH} {R : xQ} {y : tY} {s V : Nat} {T : sT} {g : Int32} (hH : bHk 84 bTT hp) (hP : P0 hp) (Y : rB hp = y) (hT : rT hp y s) (hs : (s : Int) ≤ rN hp 66 21) (hB : rdOk hp V T) (h0 : rN hp 66 24 = 0) (hwd : tWd y s wDev = true ∨ tWd y s wTri = true) (hdv : (g.toInt = 1 ∧ tWd y s wDev = true) ∨ (g.toInt = 0 ∧ tWd y s wTri = true))
    (hR : ∀ (z : Int32) hp1, bHk 84 bTT hp1 → P0 hp1 → bFr wRS hp hp1 → rSr y V T s z.toInt hp hp1 → R (.inl (some (.int z))) hp1) : xK (d + 5) 247 [.ref 66, .int g] hp R := by
  have hok : tOk (rN hp 66 21).toNat y := by rw [← Y]; exact rB_ok hH
  have b0 := b21 hH
  have w1 := tE_le hok (s := s) (by omega)
  refine xin (M := am_m247) rfl rfl rfl ?_
  refine xald 1 ⟨u247, _, rfl⟩ rfl rfl ?_
  refine xcall 4 [.ref 66] [] hH ⟨u247, _, rfl⟩ rfl rfl rfl rfl rfl (k_radv hH Y (p := tE y s) hT.2.1 (by omega) (fun hp1 hH1 F1 Y1 T1 => ⟨_, rfl, ?_⟩))
  refine xcst 5 (0) ⟨u247, _, rfl⟩ rfl (by decide) (fun z4 h4 => ?_)
  refine xist 6 ⟨u247, _, rfl⟩ rfl rfl ?_
  have G1 : bFr wRS hp hp1 := bFr_sub F1 (by decide)
  have n1 : rN hp1 66 21 = rN hp 66 21 := r_fr F1 rfl
  exact t247 hH1 (P0_W (W := wAdv) (by decide) F1 hP) Y1 T1 (by omega) (rdOk_fr hB (fun i => r_fr F1 rfl)) (by rw [show rN hp1 66 24 = rN hp 66 24 from r_fr F1 rfl]; exact h0) (by omega) hwd hdv (fun z hp2 g1 g2 g3 g4 => hR z hp2 g1 g2 (G1.trans g3) (rSr_h g4 (r_fr F1 rfl) (fun i _ _ => r_fr F1 rfl)))
theorem rSr_01 {y : tY} {V : Nat} {T : sT} {s : Nat} {z : Int} {hp hp1 : amH} (h : rSr y V T s z hp hp1) : z = 0 ∨ z = 1 := by
  unfold rSr at h
  split at h
  · exact Or.inl h.1
  · exact Or.inr h.1
theorem k_rrs {d : Nat} {hp : amH} {R : xQ} {y : tY} {s V : Nat} {T : sT} (hH : bHk 84 bTT hp) (hP : P0 hp) (Y : rB hp = y) (hT : rT hp y s) (hs : (s : Int) ≤ rN hp 66 21) (hB : rdOk hp V T) (h0 : rN hp 66 24 = 0)
    (hR : ∀ (z : Int32) hp1, bHk 84 bTT hp1 → P0 hp1 → bFr wRS hp hp1 → rSr y V T s z.toInt hp hp1 → R (.inl (some (.int z))) hp1) : xK (d + 6) 249 [.ref 66] hp R := by
  refine xin (M := am_m249) rfl rfl rfl ?_
  refine xald 1 ⟨u249, _, rfl⟩ rfl rfl ?_
  refine xldcW 3 ⟨u249, _, rfl⟩ rfl ?_
  refine xcall 6 [.ref 66, .ref 1000020] [] hH ⟨u249, _, rfl⟩ rfl rfl rfl rfl rfl (k_rw2 (l := wTri) rfl ⟨rfl, by decide⟩ hH Y hT hs (fun z3 h3 => ⟨_, rfl, ?_⟩))
  refine xif_eq 9 ⟨u249, _, rfl⟩ rfl (fun c6 => ?_) (fun c6 => ?_)
  · have nt : tWd y s wTri = false := by rcases h3 with g | g; omega; exact g.2
    refine xald 16 ⟨u249, _, rfl⟩ rfl rfl ?_
    refine xldcW3 19 ⟨u249, _, rfl⟩ rfl ?_
    refine xcall 22 [.ref 66, .ref 1000021] [] hH ⟨u249, _, rfl⟩ rfl rfl rfl rfl rfl (k_rw2 (l := wDev) rfl ⟨rfl, by decide⟩ hH Y hT hs (fun z19 h19 => ⟨_, rfl, ?_⟩))
    refine xif_eq 25 ⟨u249, _, rfl⟩ rfl (fun c22 => ?_) (fun c22 => ?_)
    · have nd : tWd y s wDev = false := by rcases h19 with g | g; omega; exact g.2
      refine xald 34 ⟨u249, _, rfl⟩ rfl rfl ?_
      refine xcst 35 (1) ⟨u249, _, rfl⟩ rfl (by decide) (fun z34 h34 => ?_)
      refine xcall 38 [.ref 66, .int _] [] hH ⟨u249, _, rfl⟩ rfl rfl rfl rfl rfl (k_rf hH h0 (fun z35 hp35 Z35 hH35 F35 A35 B35 => ⟨_, rfl, ?_⟩))
      exact xretB ⟨u249, _, rfl⟩ rfl (by omega) (hR _ hp35 hH35 (P0_tk (bFr_sub F35 (by decide)) hP) (bFr_sub F35 (by decide)) (rSr_e (tSt_1 (fun z => by rcases z with z | z; rw [nd] at z; cases z; rw [nt] at z; cases z)) (by omega) (by omega) (by rw [B35]; exact hT.1)))
    · have wd : tWd y s wDev = true := by rcases h19 with g | g; exact g.2; omega
      refine xald 26 ⟨u249, _, rfl⟩ rfl rfl ?_
      refine xcst 27 (1) ⟨u249, _, rfl⟩ rfl (by decide) (fun z26 h26 => ?_)
      refine xcall 30 [.ref 66, .int _] [] hH ⟨u249, _, rfl⟩ rfl rfl rfl rfl rfl (k_rrt hH hP Y hT hs hB h0 (Or.inl wd) (Or.inl ⟨by omega, wd⟩) (fun z27 hp27 hH27 hP27 F27 r27 => ⟨_, rfl, ?_⟩))
      refine xgoto ⟨u249, _, rfl⟩ ?_
      exact xretB ⟨u249, _, rfl⟩ rfl (rSr_01 r27) (hR _ hp27 hH27 hP27 F27 r27)
  · have wd : tWd y s wTri = true := by rcases h3 with g | g; exact g.2; omega
    refine xald 10 ⟨u249, _, rfl⟩ rfl rfl ?_
    refine xcst 11 (0) ⟨u249, _, rfl⟩ rfl (by decide) (fun z10 h10 => ?_)
    refine xcall 14 [.ref 66, .int _] [] hH ⟨u249, _, rfl⟩ rfl rfl rfl rfl rfl (k_rrt hH hP Y hT hs hB h0 (Or.inr wd) (Or.inr ⟨by omega, wd⟩) (fun z11 hp11 hH11 hP11 F11 r11 => ⟨_, rfl, ?_⟩))
    exact xretB ⟨u249, _, rfl⟩ rfl (rSr_01 r11) (hR _ hp11 hH11 hP11 F11 r11)
theorem Vf_new {r : Nat → Int} {v : Int} (h0 : r 0 = v) (h1 : 3 ≤ v) (h2 : v ≤ 15) (h : ∀ i, 4 ≤ i → i < 229 → r i = -1) : Vf r := ⟨by omega, by omega, fun a b ha hb => Or.inl (h _ (by omega) (by omega))⟩
def rPr (y : tY) (s : Nat) (z : Int) (hp hp1 : amH) : Prop := match tPt y s with
  | .inl e => z = 0 ∧ rN hp1 66 24 = e.1 ∧ rN hp1 66 25 = (e.2 : Int)
  | .inr V => z = 1 ∧ 3 ≤ V ∧ V ≤ 15 ∧ rdOk hp1 V sE ∧ rT hp1 y (tN y (tN y s)) ∧ rN hp1 66 24 = 0 ∧ rN hp1 66 25 = rN hp 66 25 ∧ ∀ i, 1 ≤ i → i < 4 → rN hp1 67 i = rN hp 67 i
theorem rPr_e {y : tY} {s : Nat} {z : Int} {hp hp1 : amH} {c : Int} {q : Nat} (e : tPt y s = .inl (c, q)) (hz : z = 0) (h1 : rN hp1 66 24 = c) (h2 : rN hp1 66 25 = (q : Int)) : rPr y s z hp hp1 := by
  unfold rPr
  rw [e]
  exact ⟨hz, h1, h2⟩
theorem k_rrp {d : Nat} {hp : amH} {R : xQ} {y : tY} {s : Nat} (hH : bHk 84 bTT hp) (hP : P0 hp) (hM : hE hp) (Y : rB hp = y) (hT : rT hp y s) (hs : (s : Int) ≤ rN hp 66 21) (h0 : rN hp 66 24 = 0)
    (hR : ∀ (z : Int32) hp1, bHk 84 bTT hp1 → P0 hp1 → bFr wRS hp hp1 → rPr y s z.toInt hp hp1 → R (.inl (some (.int z))) hp1) : xK (d + 3) 248 [.ref 66] hp R := by
  have hok : tOk (rN hp 66 21).toNat y := by rw [← Y]; exact rB_ok hH
  have b0 := b21 hH
  have w1 := tE_le hok (s := s) (by omega)
  have u1 := tN_le hok (s := s) (by omega)
  refine xin (M := am_m248) rfl rfl rfl ?_
  refine xald 1 ⟨u248, _, rfl⟩ rfl rfl ?_
  refine xldcW 3 ⟨u248, _, rfl⟩ rfl ?_
  refine xcall 6 [.ref 66, .ref 1000019] [] hH ⟨u248, _, rfl⟩ rfl rfl rfl rfl rfl (k_rw2 (l := wPts) rfl ⟨rfl, by decide⟩ hH Y hT hs (fun z3 h3 => ⟨_, rfl, ?_⟩))
  refine xif_ne 9 ⟨u248, _, rfl⟩ rfl (fun c6 => ?_) (fun c6 => ?_)
  · have wT : ¬ ¬ tWd y s wPts = true := by rcases h3 with g | g; exact fun z => z g.2; omega
    refine xald 16 ⟨u248, _, rfl⟩ rfl rfl ?_
    refine xcall 19 [.ref 66] [] hH ⟨u248, _, rfl⟩ rfl rfl rfl rfl rfl (k_radv hH Y (p := tE y s) hT.2.1 (by omega) (fun hp16 hH16 F16 Y16 T16 => ⟨_, rfl, ?_⟩))
    have n16 : rN hp16 66 21 = rN hp 66 21 := r_fr F16 rfl
    have m16 : rN hp16 66 24 = rN hp 66 24 := r_fr F16 rfl
    have T16 : rT hp16 y (tN y s) := T16
    refine xald 20 ⟨u248, _, rfl⟩ rfl rfl ?_
    refine xcst 21 (0) ⟨u248, _, rfl⟩ rfl (by decide) (fun z20 h20 => ?_)
    refine xcst 22 (3) ⟨u248, _, rfl⟩ rfl (by decide) (fun z21 h21 => ?_)
    refine xbip 24 (15) ⟨u248, _, rfl⟩ rfl (by decide) (fun z22 h22 => ?_)
    refine xcall 27 [.ref 66, .int _, .int _, .int _] [] hH16 ⟨u248, _, rfl⟩ rfl rfl rfl rfl rfl (k_tkp hH16 Y16 T16 (by omega) (by omega) (tt := 0) (pre := []) h20 (by omega) rfl (fun k hk => by omega) (fun z24 hp24 hH24 F24 r24 => ⟨_, rfl, ?_⟩))
    rw [h21, h22] at r24
    refine xif_ne 30 ⟨u248, _, rfl⟩ rfl (fun c27 => ?_) (fun c27 => ?_)
    · obtain ⟨r1, r2, r3, r4, T24, r6, r7⟩ := r24.resolve_right (fun z => by omega)
      have T24 : rT hp24 y (tN y (tN y s)) := T24
      have K24 := T24.2.2.1
      have rng : 3 ≤ tV y (tN y s) ∧ tV y (tN y s) ≤ 15 := by
        unfold tNum at r1
        split at r1
        · cases r1
        · split at r1
          · cases r1
          · omega
      have P24 : P0 hp24 := P0_tk F24 (P0_W (W := wAdv) (by decide) F16 hP)
      refine xald 33 ⟨u248, _, rfl⟩ rfl rfl ?_
      refine xgetR 36 67 hH24 ⟨u248, _, rfl⟩ rfl rfl ?_
      refine xcst 37 (0) ⟨u248, _, rfl⟩ rfl (by decide) (fun z36 h36 => ?_)
      refine xald 38 ⟨u248, _, rfl⟩ rfl rfl ?_
      refine xgetR 41 81 hH24 ⟨u248, _, rfl⟩ rfl rfl ?_
      refine xcst 42 (0) ⟨u248, _, rfl⟩ rfl (by decide) (fun z41 h41 => ?_)
      refine xiald 43 (z41).toInt.toNat hH24 ⟨u248, _, rfl⟩ rfl (by decide) rfl (by omega) (by omega) (fun z42 h42 => ?_)
      have bm := aMin z42
      have bx := aMax z42
      refine xiast 44 (z36).toInt.toNat hH24 ⟨u248, _, rfl⟩ rfl (by decide) rfl (by omega) (by omega) (by omega) (by omega) (fun hp43 hH43 U43 => ?_)
      have s43 := U43.1
      have v42 : z42.toInt = tV y (tN y s) := by rw [h42, show z41.toInt.toNat = 0 by omega]; exact r3
      have e43 : rN hp43 67 0 = tV y (tN y s) := by have e := U43.1; rw [show z36.toInt.toNat = 0 by omega] at e; omega
      have F43 : bFr [(67, 999)] hp24 hp43 := rU_fr U43 (bIn_all (by decide) _)
      have P43 : P0 hp43 := P0_67 F43 P24 (Vf_new e43 rng.1 rng.2 (fun i i1 i2 => by rw [rU_ne U43 (by omega), show rN hp24 67 i = rN hp16 67 i from r_fr F24 rfl, show rN hp16 67 i = rN hp 67 i from r_fr F16 rfl]; exact hM i i1 i2))
      have D43 : rdOk hp43 (tV y (tN y s)).toNat sE := ⟨by omega, sOk_E (by omega) (by omega), fun u v hu hv => by unfold tT; rw [rU_ne U43 (by omega), show rN hp24 67 (4 + 15 * u + v) = rN hp16 67 (4 + 15 * u + v) from r_fr F24 rfl, show rN hp16 67 (4 + 15 * u + v) = rN hp 67 (4 + 15 * u + v) from r_fr F16 rfl]; exact hM _ (by omega) (by omega), fun u v _ => rfl⟩
      refine xald 45 ⟨u248, _, rfl⟩ rfl rfl ?_
      refine xgetI 48 hH43 ⟨u248, _, rfl⟩ rfl rfl (fun z45 h45 => ?_)
      refine xcst 49 (3) ⟨u248, _, rfl⟩ rfl (by decide) (fun z48 h48 => ?_)
      refine xcmp_eq 52 ⟨u248, _, rfl⟩ rfl (fun c49 => ?_) (fun c49 => ?_)
      · have z29 : z45.toInt = rN hp24 66 29 := by rw [h45, rU_ne U43 (by omega)]
        have k3 : tK y (tN y (tN y s)) = 3 := by omega
        refine xcst 61 (1) ⟨u248, _, rfl⟩ rfl (by decide) (fun z60 h60 => ?_)
        refine xgoto ⟨u248, _, rfl⟩ ?_
        exact xretB ⟨u248, _, rfl⟩ rfl (by omega) (hR _ hp43 hH43 P43 (((bFr_sub F16 (by decide) : bFr wRS hp hp16).trans (bFr_sub F24 (by decide))).trans (bFr_sub F43 (by decide))) (by unfold rPr; rw [show tPt y s = .inr (tV y (tN y s)).toNat by unfold tPt; rw [if_neg wT, if_neg (fun z => z r1), if_neg (fun z => z k3)]]; exact ⟨by omega, by omega, by omega, D43, rT_67 T24 F43, by rw [rU_ne U43 (by omega)]; exact r6, by rw [rU_ne U43 (by omega), r7]; exact r_fr F16 rfl, fun i i1 i2 => by rw [rU_ne U43 (by omega), show rN hp24 67 i = rN hp16 67 i from r_fr F24 rfl]; exact r_fr F16 rfl⟩))
      · have z29 : z45.toInt = rN hp24 66 29 := by rw [h45, rU_ne U43 (by omega)]
        refine xald 53 ⟨u248, _, rfl⟩ rfl rfl ?_
        refine xcst 54 (1) ⟨u248, _, rfl⟩ rfl (by decide) (fun z53 h53 => ?_)
        refine xcall 57 [.ref 66, .int _] [] hH43 ⟨u248, _, rfl⟩ rfl rfl rfl rfl rfl (k_rf hH43 (by rw [rU_ne U43 (by omega)]; exact r6) (fun z54 hp54 Z54 hH54 F54 A54 B54 => ⟨_, rfl, ?_⟩))
        refine xif_eq 60 ⟨u248, _, rfl⟩ rfl (fun c57 => ?_) (fun c57 => ?_)
        · refine xcst 65 (0) ⟨u248, _, rfl⟩ rfl (by decide) (fun z64 h64 => ?_)
          exact xretB ⟨u248, _, rfl⟩ rfl (by omega) (hR _ hp54 hH54 (P0_tk (bFr_sub F54 (by decide)) P43) (((bFr_sub F16 (by decide) : bFr wRS hp hp16).trans (bFr_sub F24 (by decide))).trans ((bFr_sub F43 (by decide)).trans (bFr_sub F54 (by decide)))) (rPr_e (by unfold tPt; rw [if_neg wT, if_neg (fun z => z r1), if_pos (fun z => c49 (by omega))]) (by omega) (by omega) (by rw [B54, rU_ne U43 (by omega)]; exact T24.1)))
        · omega
    · have P24 : P0 hp24 := P0_tk F24 (P0_W (W := wAdv) (by decide) F16 hP)
      refine xcst 31 (0) ⟨u248, _, rfl⟩ rfl (by decide) (fun z30 h30 => ?_)
      rcases r24 with r | ⟨r1, r2, r3, r4⟩
      · omega
      · exact xretB ⟨u248, _, rfl⟩ rfl (by omega) (hR _ hp24 hH24 P24 ((bFr_sub F16 (by decide) : bFr wRS hp hp16).trans (bFr_sub F24 (by decide))) (rPr_e (by unfold tPt; rw [if_neg wT, if_pos r1]) (by omega) r3 r4))
  · refine xald 10 ⟨u248, _, rfl⟩ rfl rfl ?_
    refine xcst 11 (1) ⟨u248, _, rfl⟩ rfl (by decide) (fun z10 h10 => ?_)
    refine xcall 14 [.ref 66, .int _] [] hH ⟨u248, _, rfl⟩ rfl rfl rfl rfl rfl (k_rf hH h0 (fun z11 hp11 Z11 hH11 F11 A11 B11 => ⟨_, rfl, ?_⟩))
    exact xretB ⟨u248, _, rfl⟩ rfl (by omega) (hR _ hp11 hH11 (P0_tk (bFr_sub F11 (by decide)) hP) (bFr_sub F11 (by decide)) (rPr_e (by unfold tPt; rw [if_pos (by rcases h3 with g | g; omega; rw [g.2]; decide)]) (by omega) (by omega) (by rw [B11]; exact hT.1)))
end
/-! ##### 19.m.018.26q ##### -/
section
/-! ===== the reference loads ===== -/
def rRr (y : tY) (V f : Nat) (T : sT) (s : Nat) (z : Int) (hp hp1 : amH) : Prop := match tRs y V f T s with
  | .inl e => z = 0 ∧ rN hp1 66 24 = e.1 ∧ rN hp1 66 25 = (e.2 : Int)
  | .inr T1 => z = 1 ∧ rdOk hp1 V T1 ∧ rN hp1 66 24 = 0 ∧ rN hp1 66 25 = rN hp 66 25 ∧ ∀ i, 1 ≤ i → i < 4 → rN hp1 67 i = rN hp 67 i
theorem m250 {d : Nat} {hp0 : amH} {R : xQ} {y : tY} {V : Nat} (hok : tOk (rN hp0 66 21).toNat y) (hb0 : rN hp0 66 21 ≤ 600) :
    ∀ (f s : Nat) (T : sT) (hp : amH), bHk 84 bTT hp → P0 hp → bFr wRS hp0 hp → rB hp = y → rT hp y s → (s : Int) ≤ rN hp0 66 21 → rdOk hp V T → rN hp 66 24 = 0 → rN hp 66 25 = rN hp0 66 25 → (∀ i, 1 ≤ i → i < 4 → rN hp 67 i = rN hp0 67 i) → 600 < f + s →
    (∀ (z : Int32) hp1, bHk 84 bTT hp1 → P0 hp1 → bFr wRS hp0 hp1 → rRr y V f T s z.toInt hp0 hp1 → R (.inl (some (.int z))) hp1) → xV (d + 7) am_m250 13 [some (.ref 66)] [] hp R := by
  intro f
  induction f with
  | zero => intro s T hp hH hP hF Y hT hs hB h1 h2 h4 hf hR; omega
  | succ f ih =>
    intro s T hp hH hP hF Y hT hs hB h1 h2 h4 hf hR
    have q0 : rN hp 66 21 = rN hp0 66 21 := r_fr hF rfl
    have K0 := hT.2.2.1
    unfold rRr tRs at hR
    refine xald 14 ⟨u250, _, rfl⟩ rfl rfl ?_
    refine xgetI 17 hH ⟨u250, _, rfl⟩ rfl rfl (fun z14 h14 => ?_)
    refine xif_eq 20 ⟨u250, _, rfl⟩ rfl (fun c17 => ?_) (fun c17 => ?_)
    · rw [if_pos (show tK y s = 0 by omega)] at hR
      refine xcst 37 (1) ⟨u250, _, rfl⟩ rfl (by decide) (fun z36 h36 => ?_)
      exact xretB ⟨u250, _, rfl⟩ rfl (by omega) (hR _ hp hH hP hF ⟨by omega, hB, h1, h2, h4⟩)
    · have nk : ¬ tK y s = 0 := by omega
      rw [if_neg nk] at hR
      refine xald 21 ⟨u250, _, rfl⟩ rfl rfl ?_
      refine xcall 24 [.ref 66] [] hH ⟨u250, _, rfl⟩ rfl rfl rfl rfl rfl (k_rrs hH hP Y hT (by omega) hB h1 (fun z21 hp21 hH21 hP21 F21 r21 => ⟨_, rfl, ?_⟩))
      refine xif_ne 27 ⟨u250, _, rfl⟩ rfl (fun c24 => ?_) (fun c24 => ?_)
      · obtain ⟨qq, e⟩ : ∃ qq, tSt y V T s = .inr qq := by
          cases e : tSt y V T s with
          | inl er => unfold rSr at r21; rw [e] at r21; have := r21.1; omega
          | inr qq => exact ⟨qq, rfl⟩
        rw [e] at hR
        unfold rSr at r21
        rw [e] at r21
        obtain ⟨r1, r2, ⟨s4, r3, r3b, r3c⟩, S1, S2, S3⟩ := r21
        have n21 : rN hp21 66 21 = rN hp 66 21 := r_fr F21 rfl
        have gt := tSt_gt hok e
        refine xald 30 ⟨u250, _, rfl⟩ rfl rfl ?_
        refine xcall 33 [.ref 66] [] hH21 ⟨u250, _, rfl⟩ rfl rfl rfl rfl rfl (k_radv hH21 (by rw [rB_rs F21, Y]) (p := tE y s4) r3.2.1 (by rw [show rN hp21 66 21 = rN hp 66 21 from r_fr F21 rfl, q0]; have := tE_le hok (s := s4) (by omega); omega) (fun hp30 hH30 F30 Y30 T30 => ⟨_, rfl, ?_⟩))
        refine xgoto ⟨u250, _, rfl⟩ ?_
        have F30b : bFr wRS hp hp30 := F21.trans (bFr_sub F30 (by decide))
        exact ih qq.2 qq.1 hp30 hH30 (P0_W (W := wAdv) (by decide) F30 hP21) (hF.trans F30b) Y30 (by rw [r3b]; exact T30) (by have := gt.2 (by omega); omega) (rdOk_fr r2 (fun i => r_fr F30 rfl)) (by rw [show rN hp30 66 24 = rN hp21 66 24 from r_fr F30 rfl]; exact S1) (by rw [show rN hp30 66 25 = rN hp21 66 25 from r_fr F30 rfl, S2]; exact h2) (fun i i1 i2 => by rw [show rN hp30 67 i = rN hp21 67 i from r_fr F30 rfl, S3 i i1 i2]; exact h4 i i1 i2) (by omega) hR
      · refine xcst 28 (0) ⟨u250, _, rfl⟩ rfl (by decide) (fun z27 h27 => ?_)
        cases e : tSt y V T s with
        | inl er =>
          rw [e] at hR
          unfold rSr at r21
          rw [e] at r21
          exact xretB ⟨u250, _, rfl⟩ rfl (by omega) (hR _ hp21 hH21 hP21 (hF.trans F21) ⟨by omega, r21.2⟩)
        | inr qq =>
          unfold rSr at r21
          rw [e] at r21
          have := r21.1
          omega
def rRt (y : tY) (z : Int) (hp hp1 : amH) : Prop := match tRd y with
  | .inl e => z = 0 ∧ rN hp1 66 24 = e.1 ∧ rN hp1 66 25 = (e.2 : Int)
  | .inr q => z = 1 ∧ rdOk hp1 q.1 q.2 ∧ rN hp1 66 24 = 0 ∧ rN hp1 66 25 = rN hp 66 25 ∧ ∀ i, 1 ≤ i → i < 4 → rN hp1 67 i = rN hp 67 i
theorem k_rrx {d : Nat} {hp : amH} {R : xQ} {y : tY} (hH : bHk 84 bTT hp) (hP : P0 hp) (hM : hE hp) (Y : rB hp = y) (hT : rT hp y (tS y 0)) (h0 : rN hp 66 24 = 0)
    (hR : ∀ (z : Int32) hp1, bHk 84 bTT hp1 → P0 hp1 → bFr wRS hp hp1 → rRt y z.toInt hp hp1 → R (.inl (some (.int z))) hp1) : xK (d + 7) 250 [.ref 66] hp R := by
  have hok : tOk (rN hp 66 21).toNat y := by rw [← Y]; exact rB_ok hH
  have b0 := b21 hH
  have u0 := tS_le hok (p := 0) (by omega)
  have u1 := tN_le hok (s := tS y 0) (by omega)
  have u2 := tN_le hok (s := tN y (tS y 0)) (by omega)
  have u3 := tN_le hok (s := tN y (tN y (tS y 0))) (by omega)
  have u2e := tE_le hok (s := tN y (tN y (tS y 0))) (by omega)
  refine xin (M := am_m250) rfl rfl rfl ?_
  refine xald 1 ⟨u250, _, rfl⟩ rfl rfl ?_
  refine xcall 4 [.ref 66] [] hH ⟨u250, _, rfl⟩ rfl rfl rfl rfl rfl (k_rrp hH hP hM Y hT (by omega) h0 (fun z1 hp1 hH1 hP1 F1 r1 => ⟨_, rfl, ?_⟩))
  have n1 : rN hp1 66 21 = rN hp 66 21 := r_fr F1 rfl
  refine xif_ne 7 ⟨u250, _, rfl⟩ rfl (fun c4 => ?_) (fun c4 => ?_)
  · obtain ⟨V, e⟩ : ∃ V, tPt y (tS y 0) = .inr V := by
      cases e : tPt y (tS y 0) with
      | inl er => unfold rPr at r1; rw [e] at r1; have := r1.1; omega
      | inr V => exact ⟨V, rfl⟩
    unfold rPr at r1
    rw [e] at r1
    obtain ⟨r1a, r2, r3, r4, r5, r6, r7, r8⟩ := r1
    refine xald 10 ⟨u250, _, rfl⟩ rfl rfl ?_
    refine xcall 13 [.ref 66] [] hH1 ⟨u250, _, rfl⟩ rfl rfl rfl rfl rfl (k_radv hH1 (by rw [rB_rs F1, Y]) (p := tE y (tN y (tN y (tS y 0)))) r5.2.1 (by omega) (fun hp10 hH10 F10 Y10 T10 => ⟨_, rfl, ?_⟩))
    refine m250 (hp0 := hp) hok b0.2 601 (tN y (tN y (tN y (tS y 0)))) sE hp10 hH10 (P0_W (W := wAdv) (by decide) F10 hP1) (F1.trans (bFr_sub F10 (by decide))) Y10 T10 (by omega) (rdOk_fr r4 (fun i => r_fr F10 rfl)) (by rw [show rN hp10 66 24 = rN hp1 66 24 from r_fr F10 rfl]; exact r6) (by rw [show rN hp10 66 25 = rN hp1 66 25 from r_fr F10 rfl]; exact r7) (fun i i1 i2 => by rw [show rN hp10 67 i = rN hp1 67 i from r_fr F10 rfl]; exact r8 i i1 i2) (by omega) (fun z hp2 g1 g2 g3 g4 => hR z hp2 g1 g2 g3 ?_)
    unfold rRr at g4
    unfold rRt tRd
    rw [e]
    cases e2 : tRs y V 601 sE (tN y (tN y (tN y (tS y 0)))) with
    | inl er => rw [e2] at g4; show (match (match tRs y V 601 sE (tN y (tN y (tN y (tS y 0)))) with | .inl e => Sum.inl e | .inr T => Sum.inr (V, T)) with | Sum.inl e => z.toInt = 0 ∧ rN hp2 66 24 = e.fst ∧ rN hp2 66 25 = (e.snd : Int) | Sum.inr q => z.toInt = 1 ∧ rdOk hp2 q.fst q.snd ∧ rN hp2 66 24 = 0 ∧ rN hp2 66 25 = rN hp 66 25 ∧ ∀ i, 1 ≤ i → i < 4 → rN hp2 67 i = rN hp 67 i); rw [e2]; exact g4
    | inr T1 => rw [e2] at g4; show (match (match tRs y V 601 sE (tN y (tN y (tN y (tS y 0)))) with | .inl e => Sum.inl e | .inr T => Sum.inr (V, T)) with | Sum.inl e => z.toInt = 0 ∧ rN hp2 66 24 = e.fst ∧ rN hp2 66 25 = (e.snd : Int) | Sum.inr q => z.toInt = 1 ∧ rdOk hp2 q.fst q.snd ∧ rN hp2 66 24 = 0 ∧ rN hp2 66 25 = rN hp 66 25 ∧ ∀ i, 1 ≤ i → i < 4 → rN hp2 67 i = rN hp 67 i); rw [e2]; exact g4
  · refine xcst 8 (0) ⟨u250, _, rfl⟩ rfl (by decide) (fun z7 h7 => ?_)
    cases e : tPt y (tS y 0) with
    | inl er =>
      unfold rPr at r1
      rw [e] at r1
      exact xretB ⟨u250, _, rfl⟩ rfl (by omega) (hR _ hp1 hH1 hP1 F1 (by unfold rRt tRd; rw [e]; exact ⟨by omega, r1.2⟩))
    | inr V =>
      unfold rPr at r1
      rw [e] at r1
      have := r1.1
      omega
end
/-! ##### 19.m.020.27a ##### -/
section
/-! ===== the text's bytes, the same on both sides ===== -/
/-- the byte j of a word -/
def byv (x : Int32) (j : Nat) : Int := (x >>> (Int32.ofInt (24 - 8 * (j : Int)) &&& 31)).toInt % 256
theorem i_ofI {k : Int32} {m : Int} (h : k.toInt = m) : k = Int32.ofInt m := by rw [← h, Int32.ofInt_toInt]
theorem bmod_256 (x : Int) : x.bmod 256 % 256 = x % 256 := by
  unfold Int.bmod
  dsimp only
  split <;> omega
theorem nar_256 (x : Int32) : (vp_nar .byte x).toInt % 256 = x.toInt % 256 := by
  have e : (vp_nar .byte x).toInt = x.toInt.bmod 256 := by
    show (x.toInt8.toInt32).toInt = _
    rw [Int8.toInt_toInt32, Int32.toInt_toInt8]
  rw [e, bmod_256]
section XBE
variable {M : amM} {pc a b d : Nat} {L : List (Option Value)} {st : List Value} {hp : amH} {Q : xQ}
theorem xi2bE (q : Nat) {x : Int32} (h : xI M pc .i2b a b) (e : q = pc + 1) (hw : ∀ z : Int32, z.toInt % 256 = x.toInt % 256 → xV d M q L (.int z :: st) hp Q) : xV d M pc L (.int x :: st) hp Q := by
  refine xstep h (fun cl hl => ⟨cl, ?_, hl⟩) (hw x.toInt8.toInt32 (nar_256 x))
  subst e
  simp [amDo, amStep, amI]
theorem xbastE (q m : Nat) {x v : Int32} (hH : bHk 84 bTT hp) (h : xI M pc .bastore a b) (e : q = pc + 1) (hn : x.toInt = (m : Int)) (hl : m < 600)
    (hw : ∀ hp1, bHk 84 bTT hp1 → bFr [(2, 999)] hp hp1 → rN hp1 2 m % 256 = v.toInt % 256 → (∀ k, ¬ k = m → rN hp1 2 k = rN hp 2 k) → xV d M q L st hp1 Q) : xV d M pc L (.int v :: .int x :: .ref 2 :: st) hp Q := by
  obtain ⟨z, z1, z2, z3⟩ := bNarB_s v
  have z4 : z = vp_nar .byte v := by cases z1; rfl
  have hy : bDy (34, 600, [.inl (2147483520, 2147483775)]) m = some (.inl (2147483520, 2147483775)) := rfl
  obtain ⟨vs, g1, g2, -⟩ := x_fI hH (c := 2) (by decide) rfl hy hl
  obtain ⟨k1, k2⟩ := x_set hH (x := z) (c := 2) rfl g1 g2 hy z2 z3 (by decide)
  obtain ⟨e1, e2⟩ := rw_in (m := vs.length) hn g2
  refine xstep h (fun cl hl => ⟨cl, ?_, hl⟩) (hw _ k1 (rU_fr k2 (bIn_all (by decide) _)) (by rw [k2.1, z4]; exact nar_256 v) (fun k hk => rU_ne k2 (by omega)))
  subst e
  simp only [amDo, amStep, amASt, g1, e2, e1, amIsI, z1, and_self, if_true, Option.map_some]
end XBE
theorem l76E {d : Nat} {hp0 : amH} {R : xQ} {x : Int32} {n : Nat} (h0 : rN hp0 1 0 = (n : Int)) (hn : n ≤ 596) (hR : ∀ hp1, bHk 84 bTT hp1 → bFr wTx hp0 hp1 → rN hp1 1 0 = (n : Int) + 4 → (∀ k, k < n → rN hp1 2 k = rN hp0 2 k) → (∀ j, j < 4 → rN hp1 2 (n + j) % 256 = byv x j) → R (.inl none) hp1) :
    ∀ (jj j : Nat) (k : Int32) (hp : amH), j + jj = 4 → k.toInt = 8 * (jj : Int) - 8 → bHk 84 bTT hp → bFr wTx hp0 hp → rN hp 1 0 = (n : Int) + (j : Int) → (∀ k, k < n → rN hp 2 k = rN hp0 2 k) → (∀ i, i < j → rN hp 2 (n + i) % 256 = byv x i) → xV d am_m76 3 [some (.ref 1), some (.int x), some (.int k)] [] hp R := by
  intro jj
  induction jj with
  | zero =>
    intro j k hp hj hk hH hF h1 h2 h3
    refine xild 4 ⟨u76, _, rfl⟩ rfl rfl ?_
    refine xif_lt 7 ⟨u76, _, rfl⟩ rfl (fun c4 => ?_) (fun c4 => ?_)
    · exact xretV ⟨u76, _, rfl⟩ rfl (hR hp hH hF (by omega) h2 (fun i hi => h3 i (by omega)))
    · omega
  | succ jj ih =>
    intro j k hp hj hk hH hF h1 h2 h3
    have b1 := b10 hH
    have ek := i_ofI (m := 24 - 8 * (j : Int)) (by omega : k.toInt = 24 - 8 * (j : Int))
    refine xild 4 ⟨u76, _, rfl⟩ rfl rfl ?_
    refine xif_lt 7 ⟨u76, _, rfl⟩ rfl (fun c4 => ?_) (fun c4 => ?_)
    · omega
    · refine xald 8 ⟨u76, _, rfl⟩ rfl rfl ?_
      refine xgetC 11 hH ⟨u76, _, rfl⟩ rfl (by decide) (by decide) rfl rfl (by decide) (fun z8 h8 => ?_)
      refine xald 12 ⟨u76, _, rfl⟩ rfl rfl ?_
      refine xgetD 15 2 hH ⟨u76, _, rfl⟩ rfl (by decide) (by decide) rfl rfl (by decide) ?_
      refine xlenB 16 hH ⟨u76, _, rfl⟩ rfl (fun z15 h15 => ?_)
      refine xcmp_ge 19 ⟨u76, _, rfl⟩ rfl (fun c16 => ?_) (fun c16 => ?_)
      · omega
      · refine xald 20 ⟨u76, _, rfl⟩ rfl rfl ?_
        refine xgetD 23 2 hH ⟨u76, _, rfl⟩ rfl (by decide) (by decide) rfl rfl (by decide) ?_
        refine xald 24 ⟨u76, _, rfl⟩ rfl rfl ?_
        refine xgetC 27 hH ⟨u76, _, rfl⟩ rfl (by decide) (by decide) rfl rfl (by decide) (fun z24 h24 => ?_)
        refine xild 28 ⟨u76, _, rfl⟩ rfl rfl ?_
        refine xild 29 ⟨u76, _, rfl⟩ rfl rfl ?_
        refine xshr 30 ⟨u76, _, rfl⟩ rfl ?_
        refine xi2bE 31 ⟨u76, _, rfl⟩ rfl (fun z30 h30 => ?_)
        refine xbastE 32 z24.toInt.toNat hH ⟨u76, _, rfl⟩ rfl (by omega) (by omega) (fun hp31 hH31 F31 V31 O31 => ?_)
        have n31 : rN hp31 1 0 = rN hp 1 0 := r_fr F31 rfl
        refine xald 33 ⟨u76, _, rfl⟩ rfl rfl ?_
        refine xdup 34 ⟨u76, _, rfl⟩ rfl rfl ?_
        refine xgetC 37 hH31 ⟨u76, _, rfl⟩ rfl (by decide) (by decide) rfl rfl (by decide) (fun z34 h34 => ?_)
        refine xcst 38 (1) ⟨u76, _, rfl⟩ rfl (by decide) (fun z37 h37 => ?_)
        refine xadd 39 _ ⟨u76, _, rfl⟩ rfl rfl (by omega) (by omega) (fun z38 h38 => ?_)
        refine xputC 42 hH31 ⟨u76, _, rfl⟩ rfl (by decide) (by decide) rfl rfl (by decide) ⟨rfl, rfl⟩ (by omega) (by omega) (fun hp39 hH39 U39 => ?_)
        have s39 := U39.1
        refine xinc 45 (-8) ⟨u76, _, rfl⟩ rfl rfl rfl (by decide) (by omega) (by omega) (fun z42 h42 => ?_)
        refine xgoto ⟨u76, _, rfl⟩ ?_
        rw [show z24.toInt.toNat = n + j by omega] at V31 O31
        exact ih (j + 1) _ hp39 (by omega) (by omega) hH39 ((hF.trans (bFr_sub F31 (by decide))).trans (rU_fr U39 (by decide))) (by omega) (fun q hq => by rw [rU_ne U39 (by omega), O31 q (by omega)]; exact h2 q hq) (fun i hi => by
          rw [rU_ne U39 (by omega)]
          by_cases e : i = j
          · rw [e, V31, h30, ek]; rfl
          · rw [O31 _ (by omega)]; exact h3 i (by omega))
theorem k_apE {d : Nat} {hp : amH} {R : xQ} {x : Int32} {n : Nat} (hH : bHk 84 bTT hp) (h0 : rN hp 1 0 = (n : Int)) (hn : n ≤ 596) (hR : ∀ hp1, bHk 84 bTT hp1 → bFr wTx hp hp1 → rN hp1 1 0 = (n : Int) + 4 → (∀ k, k < n → rN hp1 2 k = rN hp 2 k) → (∀ j, j < 4 → rN hp1 2 (n + j) % 256 = byv x j) → R (.inl none) hp1) : xK d 76 [.ref 1, .int x] hp R := by
  refine xin (M := am_m76) rfl rfl rfl ?_
  refine xbip 2 (24) ⟨u76, _, rfl⟩ rfl (by decide) (fun z0 h0' => ?_)
  refine xist 3 ⟨u76, _, rfl⟩ rfl rfl ?_
  exact l76E h0 hn hR 4 0 _ hp (by omega) (by omega) hH (bFr.refl _ _) (by omega) (fun _ _ => rfl) (fun i hi => by omega)
/-- twenty bytes behind the n that there are -/
def bytE (x1 x2 x3 x4 x5 : Int32) (j : Nat) : Int := if j < 4 then byv x1 j else if j < 8 then byv x2 (j - 4) else if j < 12 then byv x3 (j - 8) else if j < 16 then byv x4 (j - 12) else byv x5 (j - 16)
theorem k_113E {n : Nat} {d : Nat} {hp : amH} {R : xQ} {x1 x2 x3 x4 x5 : Int32} (hH : bHk 84 bTT hp) (h0 : rN hp 1 0 = (n : Int)) (hR : ∀ (z : Int32) hp1, bHk 84 bTT hp1 → bFr wTx hp hp1 → ((n ≤ 580 ∧ rN hp1 1 0 = (n : Int) + 20 ∧ z.toInt = (n : Int) + 20 ∧ (∀ k, k < n → rN hp1 2 k = rN hp 2 k) ∧ ∀ j, j < 20 → rN hp1 2 (n + j) % 256 = bytE x1 x2 x3 x4 x5 j) ∨ (580 < n ∧ hp1 = hp ∧ z.toInt = -1)) → R (.inl (some (.int z))) hp1) : xK (d + 1) 113 [.ref 0, .int x1, .int x2, .int x3, .int x4, .int x5] hp R := by
  have b1 := b10 hH
  refine xin (M := am_m113) rfl rfl rfl ?_
  refine xald 1 ⟨u113, _, rfl⟩ rfl rfl ?_
  refine xgetD 4 1 hH ⟨u113, _, rfl⟩ rfl (by decide) (by decide) rfl rfl (by decide) ?_
  refine xcallC 7 (o := 1) [] [] hH ⟨u113, _, rfl⟩ rfl rfl (by decide) rfl (by decide) rfl ⟨rfl, rfl, rfl, rfl⟩ rfl (k_hr hH (fun z4 h4 => ⟨_, rfl, ?_⟩))
  refine xif_ne 10 ⟨u113, _, rfl⟩ rfl (fun c7 => ?_) (fun c7 => ?_)
  · refine xald 13 ⟨u113, _, rfl⟩ rfl rfl ?_
    refine xgetD 16 1 hH ⟨u113, _, rfl⟩ rfl (by decide) (by decide) rfl rfl (by decide) ?_
    refine xild 17 ⟨u113, _, rfl⟩ rfl rfl ?_
    refine xcallC 20 (o := 1) [.int _] [] hH ⟨u113, _, rfl⟩ rfl rfl (by decide) rfl (by decide) rfl ⟨rfl, rfl, rfl, rfl⟩ rfl (k_apE (n := n + 0) hH (by omega) (by omega) (fun hp17 hH17 F17 N17 O17 E17 => ⟨_, rfl, ?_⟩))
    refine xald 21 ⟨u113, _, rfl⟩ rfl rfl ?_
    refine xgetD 24 1 hH17 ⟨u113, _, rfl⟩ rfl (by decide) (by decide) rfl rfl (by decide) ?_
    refine xild 25 ⟨u113, _, rfl⟩ rfl rfl ?_
    refine xcallC 28 (o := 1) [.int _] [] hH17 ⟨u113, _, rfl⟩ rfl rfl (by decide) rfl (by decide) rfl ⟨rfl, rfl, rfl, rfl⟩ rfl (k_apE (n := n + 4) hH17 (by omega) (by omega) (fun hp25 hH25 F25 N25 O25 E25 => ⟨_, rfl, ?_⟩))
    refine xald 29 ⟨u113, _, rfl⟩ rfl rfl ?_
    refine xgetD 32 1 hH25 ⟨u113, _, rfl⟩ rfl (by decide) (by decide) rfl rfl (by decide) ?_
    refine xild 33 ⟨u113, _, rfl⟩ rfl rfl ?_
    refine xcallC 36 (o := 1) [.int _] [] hH25 ⟨u113, _, rfl⟩ rfl rfl (by decide) rfl (by decide) rfl ⟨rfl, rfl, rfl, rfl⟩ rfl (k_apE (n := n + 8) hH25 (by omega) (by omega) (fun hp33 hH33 F33 N33 O33 E33 => ⟨_, rfl, ?_⟩))
    refine xald 37 ⟨u113, _, rfl⟩ rfl rfl ?_
    refine xgetD 40 1 hH33 ⟨u113, _, rfl⟩ rfl (by decide) (by decide) rfl rfl (by decide) ?_
    refine xild2 42 ⟨u113, _, rfl⟩ rfl rfl ?_
    refine xcallC 45 (o := 1) [.int _] [] hH33 ⟨u113, _, rfl⟩ rfl rfl (by decide) rfl (by decide) rfl ⟨rfl, rfl, rfl, rfl⟩ rfl (k_apE (n := n + 12) hH33 (by omega) (by omega) (fun hp42 hH42 F42 N42 O42 E42 => ⟨_, rfl, ?_⟩))
    refine xald 46 ⟨u113, _, rfl⟩ rfl rfl ?_
    refine xgetD 49 1 hH42 ⟨u113, _, rfl⟩ rfl (by decide) (by decide) rfl rfl (by decide) ?_
    refine xild2 51 ⟨u113, _, rfl⟩ rfl rfl ?_
    refine xcallC 54 (o := 1) [.int _] [] hH42 ⟨u113, _, rfl⟩ rfl rfl (by decide) rfl (by decide) rfl ⟨rfl, rfl, rfl, rfl⟩ rfl (k_apE (n := n + 16) hH42 (by omega) (by omega) (fun hp51 hH51 F51 N51 O51 E51 => ⟨_, rfl, ?_⟩))
    refine xald 55 ⟨u113, _, rfl⟩ rfl rfl ?_
    refine xgetD 58 1 hH51 ⟨u113, _, rfl⟩ rfl (by decide) (by decide) rfl rfl (by decide) ?_
    refine xgetC 61 hH51 ⟨u113, _, rfl⟩ rfl (by decide) (by decide) rfl rfl (by decide) (fun z58 h58 => ?_)
    exact xret ⟨u113, _, rfl⟩ rfl (hR _ hp51 hH51 (((((F17).trans F25).trans F33).trans F42).trans F51) (Or.inl ⟨by omega, by omega, by omega, fun k hk => by rw [O51 k (by omega), O42 k (by omega), O33 k (by omega), O25 k (by omega), O17 k hk], fun j hj => by
      unfold bytE
      by_cases g1 : j < 4
      · rw [if_pos g1, O51 _ (by omega), O42 _ (by omega), O33 _ (by omega), O25 _ (by omega)]
        exact E17 j g1
      · rw [if_neg g1]
        by_cases g2 : j < 8
        · rw [if_pos g2, O51 _ (by omega), O42 _ (by omega), O33 _ (by omega)]
          have := E25 (j - 4) (by omega)
          rw [show n + 4 + (j - 4) = n + j by omega] at this
          exact this
        · rw [if_neg g2]
          by_cases g3 : j < 12
          · rw [if_pos g3, O51 _ (by omega), O42 _ (by omega)]
            have := E33 (j - 8) (by omega)
            rw [show n + 8 + (j - 8) = n + j by omega] at this
            exact this
          · rw [if_neg g3]
            by_cases g4 : j < 16
            · rw [if_pos g4, O51 _ (by omega)]
              have := E42 (j - 12) (by omega)
              rw [show n + 12 + (j - 12) = n + j by omega] at this
              exact this
            · rw [if_neg g4]
              have := E51 (j - 16) (by omega)
              rw [show n + 16 + (j - 16) = n + j by omega] at this
              exact this⟩))
  · refine xcst 11 (-1) ⟨u113, _, rfl⟩ rfl (by decide) (fun z10 h10 => ?_)
    exact xret ⟨u113, _, rfl⟩ rfl (hR _ hp hH (bFr.refl _ _) (Or.inr ⟨by omega, rfl, by omega⟩))
theorem l238E {d : Nat} {hp0 : amH} {R : xQ} {x : Int32} {n : Nat} (h0 : rN hp0 66 21 = (n : Int)) (hn : n ≤ 596) (hR : ∀ hp1, bHk 84 bTT hp1 → bFr wAp hp0 hp1 → rN hp1 66 21 = (n : Int) + 4 → (∀ k, k < n → rN hp1 80 k = rN hp0 80 k) → (∀ j, j < 4 → rN hp1 80 (n + j) = byv x j) → R (.inl none) hp1) :
    ∀ (jj j : Nat) (k : Int32) (hp : amH), j + jj = 4 → k.toInt = 8 * (jj : Int) - 8 → bHk 84 bTT hp → bFr wAp hp0 hp → rN hp 66 21 = (n : Int) + (j : Int) → (∀ k, k < n → rN hp 80 k = rN hp0 80 k) → (∀ i, i < j → rN hp 80 (n + i) = byv x i) → xV d am_m238 3 [some (.ref 66), some (.int x), some (.int k)] [] hp R := by
  intro jj
  induction jj with
  | zero =>
    intro j k hp hj hk hH hF h1 h2 h3
    refine xild 4 ⟨u238, _, rfl⟩ rfl rfl ?_
    refine xif_lt 7 ⟨u238, _, rfl⟩ rfl (fun c4 => ?_) (fun c4 => ?_)
    · exact xretV ⟨u238, _, rfl⟩ rfl (hR hp hH hF (by omega) h2 (fun i hi => h3 i (by omega)))
    · omega
  | succ jj ih =>
    intro j k hp hj hk hH hF h1 h2 h3
    have b1 := b21 hH
    have ek := i_ofI (m := 24 - 8 * (j : Int)) (by omega : k.toInt = 24 - 8 * (j : Int))
    refine xild 4 ⟨u238, _, rfl⟩ rfl rfl ?_
    refine xif_lt 7 ⟨u238, _, rfl⟩ rfl (fun c4 => ?_) (fun c4 => ?_)
    · omega
    · refine xald 8 ⟨u238, _, rfl⟩ rfl rfl ?_
      refine xgetR 11 80 hH ⟨u238, _, rfl⟩ rfl rfl ?_
      refine xald 12 ⟨u238, _, rfl⟩ rfl rfl ?_
      refine xgetI 15 hH ⟨u238, _, rfl⟩ rfl rfl (fun z12 h12 => ?_)
      refine xild 16 ⟨u238, _, rfl⟩ rfl rfl ?_
      refine xild 17 ⟨u238, _, rfl⟩ rfl rfl ?_
      refine xshr 18 ⟨u238, _, rfl⟩ rfl ?_
      refine xsip 21 (255) ⟨u238, _, rfl⟩ rfl (by decide) (fun z18 h18 => ?_)
      refine xand 22 ⟨u238, _, rfl⟩ rfl ?_
      have a22 := and255 (x >>> (k &&& 31)) z18 h18
      refine xiast 23 (z12).toInt.toNat hH ⟨u238, _, rfl⟩ rfl (by decide) rfl (by omega) (by omega) (by omega) (by omega) (fun hp22 hH22 U22 => ?_)
      have n22 : rN hp22 66 21 = rN hp 66 21 := rU_ne U22 (by omega)
      refine xald 24 ⟨u238, _, rfl⟩ rfl rfl ?_
      refine xdup 25 ⟨u238, _, rfl⟩ rfl rfl ?_
      refine xgetI 28 hH22 ⟨u238, _, rfl⟩ rfl rfl (fun z25 h25 => ?_)
      refine xcst 29 (1) ⟨u238, _, rfl⟩ rfl (by decide) (fun z28 h28 => ?_)
      refine xadd 30 _ ⟨u238, _, rfl⟩ rfl rfl (by omega) (by omega) (fun z29 h29 => ?_)
      refine xputI 33 hH22 ⟨u238, _, rfl⟩ rfl rfl ⟨rfl, rfl⟩ (by omega) (by omega) (fun hp30 hH30 U30 => ?_)
      have s30 := U30.1
      refine xinc 36 (-8) ⟨u238, _, rfl⟩ rfl rfl rfl (by decide) (by omega) (by omega) (fun z33 h33 => ?_)
      refine xgoto ⟨u238, _, rfl⟩ ?_
      have w22 := U22.1
      rw [show (z12).toInt.toNat = n + j by omega] at w22
      exact ih (j + 1) _ hp30 (by omega) (by omega) hH30 ((hF.trans (rU_fr U22 (bIn_all (by decide) _))).trans (rU_fr U30 (by decide))) (by omega) (fun q hq => by rw [rU_ne U30 (by omega), rU_ne U22 (by omega)]; exact h2 q hq) (fun i hi => by
        rw [rU_ne U30 (by omega)]
        by_cases e : i = j
        · rw [e, w22, ek, m255 h18]; rfl
        · rw [rU_ne U22 (by omega)]; exact h3 i (by omega))
theorem k_awE {d : Nat} {hp : amH} {R : xQ} {x : Int32} {n : Nat} (hH : bHk 84 bTT hp) (h0 : rN hp 66 21 = (n : Int)) (hn : n ≤ 596) (hR : ∀ hp1, bHk 84 bTT hp1 → bFr wAp hp hp1 → rN hp1 66 21 = (n : Int) + 4 → (∀ k, k < n → rN hp1 80 k = rN hp 80 k) → (∀ j, j < 4 → rN hp1 80 (n + j) = byv x j) → R (.inl none) hp1) : xK d 238 [.ref 66, .int x] hp R := by
  refine xin (M := am_m238) rfl rfl rfl ?_
  refine xbip 2 (24) ⟨u238, _, rfl⟩ rfl (by decide) (fun z0 h0' => ?_)
  refine xist 3 ⟨u238, _, rfl⟩ rfl rfl ?_
  exact l238E h0 hn hR 4 0 _ hp (by omega) (by omega) hH (bFr.refl _ _) (by omega) (fun _ _ => rfl) (fun i hi => by omega)
theorem k_239E {n : Nat} {d : Nat} {hp : amH} {R : xQ} {x1 x2 x3 x4 x5 : Int32} (hH : bHk 84 bTT hp) (h0 : rN hp 66 21 = (n : Int)) (hR : ∀ (z : Int32) hp1, bHk 84 bTT hp1 → bFr ((66, 7) :: wAp) hp hp1 → ((n ≤ 580 ∧ rN hp1 66 21 = (n : Int) + 20 ∧ z.toInt = (n : Int) + 20 ∧ (∀ k, k < n → rN hp1 80 k = rN hp 80 k) ∧ ∀ j, j < 20 → rN hp1 80 (n + j) = bytE x1 x2 x3 x4 x5 j) ∨ (580 < n ∧ rN hp1 66 21 = rN hp 66 21 ∧ (∀ k, rN hp1 80 k = rN hp 80 k) ∧ z.toInt = -1)) → R (.inl (some (.int z))) hp1) : xK (d + 1) 239 [.ref 66, .int x1, .int x2, .int x3, .int x4, .int x5] hp R := by
  have b1 := b21 hH
  refine xin (M := am_m239) rfl rfl rfl ?_
  refine xald 1 ⟨u239, _, rfl⟩ rfl rfl ?_
  refine xcst 2 (0) ⟨u239, _, rfl⟩ rfl (by decide) (fun z1 h1 => ?_)
  refine xputI 5 hH ⟨u239, _, rfl⟩ rfl rfl ⟨rfl, rfl⟩ (by omega) (by omega) (fun hp2 hH2 U2 => ?_)
  have n2 : rN hp2 66 21 = rN hp 66 21 := rU_ne U2 (by omega)
  refine xald 6 ⟨u239, _, rfl⟩ rfl rfl ?_
  refine xgetI 9 hH2 ⟨u239, _, rfl⟩ rfl rfl (fun z6 h6 => ?_)
  refine xbip 11 (20) ⟨u239, _, rfl⟩ rfl (by decide) (fun z9 h9 => ?_)
  refine xadd 12 _ ⟨u239, _, rfl⟩ rfl rfl (by omega) (by omega) (fun z11 h11 => ?_)
  refine xsip 15 (600) ⟨u239, _, rfl⟩ rfl (by decide) (fun z12 h12 => ?_)
  refine xcmp_le 18 ⟨u239, _, rfl⟩ rfl (fun c15 => ?_) (fun c15 => ?_)
  · refine xald 21 ⟨u239, _, rfl⟩ rfl rfl ?_
    refine xild 22 ⟨u239, _, rfl⟩ rfl rfl ?_
    refine xcall 25 [.ref 66, .int _] [] hH2 ⟨u239, _, rfl⟩ rfl rfl rfl rfl rfl (k_awE (n := n + 0) hH2 (by omega) (by omega) (fun hp22 hH22 F22 N22 O22 E22 => ⟨_, rfl, ?_⟩))
    refine xald 26 ⟨u239, _, rfl⟩ rfl rfl ?_
    refine xild 27 ⟨u239, _, rfl⟩ rfl rfl ?_
    refine xcall 30 [.ref 66, .int _] [] hH22 ⟨u239, _, rfl⟩ rfl rfl rfl rfl rfl (k_awE (n := n + 4) hH22 (by omega) (by omega) (fun hp27 hH27 F27 N27 O27 E27 => ⟨_, rfl, ?_⟩))
    refine xald 31 ⟨u239, _, rfl⟩ rfl rfl ?_
    refine xild 32 ⟨u239, _, rfl⟩ rfl rfl ?_
    refine xcall 35 [.ref 66, .int _] [] hH27 ⟨u239, _, rfl⟩ rfl rfl rfl rfl rfl (k_awE (n := n + 8) hH27 (by omega) (by omega) (fun hp32 hH32 F32 N32 O32 E32 => ⟨_, rfl, ?_⟩))
    refine xald 36 ⟨u239, _, rfl⟩ rfl rfl ?_
    refine xild2 38 ⟨u239, _, rfl⟩ rfl rfl ?_
    refine xcall 41 [.ref 66, .int _] [] hH32 ⟨u239, _, rfl⟩ rfl rfl rfl rfl rfl (k_awE (n := n + 12) hH32 (by omega) (by omega) (fun hp38 hH38 F38 N38 O38 E38 => ⟨_, rfl, ?_⟩))
    refine xald 42 ⟨u239, _, rfl⟩ rfl rfl ?_
    refine xild2 44 ⟨u239, _, rfl⟩ rfl rfl ?_
    refine xcall 47 [.ref 66, .int _] [] hH38 ⟨u239, _, rfl⟩ rfl rfl rfl rfl rfl (k_awE (n := n + 16) hH38 (by omega) (by omega) (fun hp44 hH44 F44 N44 O44 E44 => ⟨_, rfl, ?_⟩))
    refine xald 48 ⟨u239, _, rfl⟩ rfl rfl ?_
    refine xgetI 51 hH44 ⟨u239, _, rfl⟩ rfl rfl (fun z48 h48 => ?_)
    exact xret ⟨u239, _, rfl⟩ rfl (hR _ hp44 hH44 ((rU_fr U2 (by decide)).trans (bFr_sub (((((F22).trans F27).trans F32).trans F38).trans F44) (by decide))) (Or.inl ⟨by omega, by omega, by omega, fun k hk => by rw [O44 k (by omega), O38 k (by omega), O32 k (by omega), O27 k (by omega), O22 k hk, rU_ne U2 (by omega)], fun j hj => by
      unfold bytE
      by_cases g1 : j < 4
      · rw [if_pos g1, O44 _ (by omega), O38 _ (by omega), O32 _ (by omega), O27 _ (by omega)]
        exact E22 j g1
      · rw [if_neg g1]
        by_cases g2 : j < 8
        · rw [if_pos g2, O44 _ (by omega), O38 _ (by omega), O32 _ (by omega)]
          have := E27 (j - 4) (by omega)
          rw [show n + 4 + (j - 4) = n + j by omega] at this
          exact this
        · rw [if_neg g2]
          by_cases g3 : j < 12
          · rw [if_pos g3, O44 _ (by omega), O38 _ (by omega)]
            have := E32 (j - 8) (by omega)
            rw [show n + 8 + (j - 8) = n + j by omega] at this
            exact this
          · rw [if_neg g3]
            by_cases g4 : j < 16
            · rw [if_pos g4, O44 _ (by omega)]
              have := E38 (j - 12) (by omega)
              rw [show n + 12 + (j - 12) = n + j by omega] at this
              exact this
            · rw [if_neg g4]
              have := E44 (j - 16) (by omega)
              rw [show n + 16 + (j - 16) = n + j by omega] at this
              exact this⟩))
  · refine xcst 19 (-1) ⟨u239, _, rfl⟩ rfl (by decide) (fun z18 h18 => ?_)
    exact xret ⟨u239, _, rfl⟩ rfl (hR _ hp2 hH2 (rU_fr U2 (by decide)) (Or.inr ⟨by omega, by omega, fun k => rU_ne U2 (by omega), by omega⟩))
end
/-! ##### 19.m.021.27b ##### -/
section
/-! ===== the law's helpers ===== -/
theorem bL1_s : bSems amGG P0 84 bTT bL1 := by rw [← bL1_eq]; exact bAll2_s (by decide) P0_fr bB1_ok (fun e he => by cases he)
theorem bL2_s : bSems amGG P0 84 bTT bL2 := by rw [← bL2_eq]; exact bAll2_s (by decide) P0_fr bB2_ok bL1_s
theorem bL3_s : bSems amGG P0 84 bTT bL3 := by rw [← bL3_eq]; exact bAll2_s (by decide) P0_fr bB3_ok bL2_s
theorem bL4_s : bSems amGG P0 84 bTT bL4 := by rw [← bL4_eq]; exact bAll2_s (by decide) P0_fr bB4_ok bL3_s
theorem bM4_s : bSems amGG P0 84 bTT bM4 := fun e he => by
  rcases List.mem_cons.mp (show e ∈ be_s38 :: bL4 from he) with rfl | h
  · exact be_s38_s bL4_s
  · exact bL4_s e h
theorem bL5_s : bSems amGG P0 84 bTT bL5 := by rw [← bL5_eq]; exact bAll2_s (by decide) P0_fr bB5_ok bM4_s
theorem bL6_s : bSems amGG P0 84 bTT bL6 := by rw [← bL6_eq]; exact bAll2_s (by decide) P0_fr bB6_ok bL5_s
theorem bM6_s : bSems amGG P0 84 bTT bM6 := fun e he => by
  rcases List.mem_cons.mp (show e ∈ be_s161 :: bL6 from he) with rfl | h
  · exact be_s161_s bL6_s
  · exact bL6_s e h
theorem bL7_s : bSems amGG P0 84 bTT bL7 := by rw [← bL7_eq]; exact bAll2_s (by decide) P0_fr bB7_ok bM6_s
theorem bL8_s : bSems amGG P0 84 bTT bL8 := by rw [← bL8_eq]; exact bAll2_s (by decide) P0_fr bB8_ok bL7_s
end
/-! ##### 19.m.022.26s ##### -/
section
/-! ===== the class loads a system: what it knows then of the text ===== -/
theorem u115 : bUp 0 am_m115.1 = true := by decide +kernel
theorem u185 : bUp 0 am_m185.1 = true := by decide +kernel
end
/-! ##### 19.m.023.27c ##### -/
section
/-! ===== what the law keeps: the text and its error, the same on both sides ===== -/
/-- may the text's bytes, their number, the error be kept -/
def lawW (W : List (Nat × Nat)) : Bool := W.all (fun p => !(Nat.beq p.1 2) && (!(Nat.beq p.1 80) && (!(Nat.beq p.1 1 && (Nat.ble p.2 2 || Nat.beq p.2 999)) && !(Nat.beq p.1 66 && ((Nat.ble 21 p.2 && Nat.ble p.2 23) || Nat.beq p.2 999)))))
theorem bIn_out {W : List (Nat × Nat)} {c k : Nat} (h : ∀ p ∈ W, ¬ (p.1 = c ∧ (p.2 = k ∨ p.2 = 999))) : bIn W c k = false := by
  induction W with
  | nil => rfl
  | cons p r ih =>
    have h1 := h p List.mem_cons_self
    have ih := ih (fun q hq => h q (List.mem_cons_of_mem _ hq))
    unfold bIn
    split
    · next e =>
      have e := Nat.eq_of_beq_eq_true e
      split
      · next e2 => exact absurd ⟨e, Or.inl (Nat.eq_of_beq_eq_true e2)⟩ h1
      · split
        · next e3 => exact absurd ⟨e, Or.inr (Nat.eq_of_beq_eq_true e3)⟩ h1
        · exact ih
    · exact ih
theorem lawW_s {W : List (Nat × Nat)} (h : lawW W = true) : (∀ k, bIn W 2 k = false) ∧ (∀ k, bIn W 80 k = false) ∧ (∀ k, k ≤ 2 → bIn W 1 k = false) ∧ ∀ k, 21 ≤ k → k ≤ 23 → bIn W 66 k = false := by
  have g : ∀ p ∈ W, ¬ p.1 = 2 ∧ ¬ p.1 = 80 ∧ ¬ (p.1 = 1 ∧ (p.2 ≤ 2 ∨ p.2 = 999)) ∧ ¬ (p.1 = 66 ∧ ((21 ≤ p.2 ∧ p.2 ≤ 23) ∨ p.2 = 999)) := by
    intro p hp
    have := List.all_eq_true.mp h p hp
    simp only [Bool.and_eq_true, Bool.not_eq_true', Bool.and_eq_false_imp, Bool.or_eq_false_iff] at this
    obtain ⟨a, b, c, d⟩ := this
    refine ⟨fun z => ?_, fun z => ?_, fun z => ?_, fun z => ?_⟩
    · rw [z] at a; cases a
    · rw [z] at b; cases b
    · have := c (by rw [z.1]; rfl)
      rcases z.2 with y | y
      · rw [Nat.ble_eq_true_of_le y] at this; exact absurd this.1 (by decide)
      · rw [y] at this; exact absurd this.2 (by decide)
    · have := d (by rw [z.1]; rfl)
      rcases z.2 with y | y
      · have t := this.1 (Nat.ble_eq_true_of_le y.1)
        rw [Nat.ble_eq_true_of_le y.2] at t; cases t
      · rw [y] at this; exact absurd this.2 (by decide)
  exact ⟨fun k => bIn_out (fun p hp z => (g p hp).1 z.1), fun k => bIn_out (fun p hp z => (g p hp).2.1 z.1), fun k hk => bIn_out (fun p hp z => (g p hp).2.2.1 ⟨z.1, by omega⟩), fun k h1 h2 => bIn_out (fun p hp z => (g p hp).2.2.2 ⟨z.1, by omega⟩)⟩
/-- what holds before and after every step of the law -/
def lawI (hp : amH) : Prop := bHk 84 bTT hp ∧ P0 hp ∧ rN hp 1 0 = rN hp 66 21 ∧ cB hp = rB hp ∧ rN hp 1 1 = rN hp 66 22 ∧ rN hp 1 2 = rN hp 66 23
theorem lawI_fr {W : List (Nat × Nat)} {hp hp1 : amH} (h : lawI hp) (hH1 : bHk 84 bTT hp1) (hP1 : P0 hp1) (hF : bFr W hp hp1) (w1 : lawW W = true) (w2 : lawW W = true) : lawI hp1 := by
  obtain ⟨g1, g2, g3, g4⟩ := lawW_s w1
  obtain ⟨-, -, h3, h4, h5, h6⟩ := h
  have e0 : rN hp1 1 0 = rN hp 1 0 := r_fr hF (g3 0 (by decide))
  have e21 : rN hp1 66 21 = rN hp 66 21 := r_fr hF (g4 21 (by decide) (by decide))
  refine ⟨hH1, hP1, by rw [e0, e21]; exact h3, ?_, by rw [show rN hp1 1 1 = rN hp 1 1 from r_fr hF (g3 1 (by decide)), show rN hp1 66 22 = rN hp 66 22 from r_fr hF (g4 22 (by decide) (by decide))]; exact h5, by rw [show rN hp1 1 2 = rN hp 1 2 from r_fr hF (g3 2 (by decide)), show rN hp1 66 23 = rN hp 66 23 from r_fr hF (g4 23 (by decide) (by decide))]; exact h6⟩
  rw [rB_F hF (g4 21 (by decide) (by decide)) g2, ← h4]
  funext k
  unfold cB
  rw [e0, show rN hp1 2 k = rN hp 2 k from r_fr hF (g1 k)]
/-- the same bytes -/
theorem bt_of {hp : amH} (h : cB hp = rB hp) (hn : rN hp 1 0 = rN hp 66 21) (k : Nat) (hk : (k : Int) < rN hp 1 0) : rN hp 2 k % 256 = rN hp 80 k := by
  have := congrFun h k
  unfold cB rB at this
  rw [if_pos hk, if_pos (by omega)] at this
  exact this
theorem bt_to {hp : amH} (hn : rN hp 1 0 = rN hp 66 21) (h : ∀ k : Nat, (k : Int) < rN hp 1 0 → rN hp 2 k % 256 = rN hp 80 k) : cB hp = rB hp := by
  funext k
  unfold cB rB
  by_cases g : (k : Int) < rN hp 1 0
  · rw [if_pos g, if_pos (by omega), h k g]
  · rw [if_neg g, if_neg (by omega)]
theorem lawI_83 {hp hp1 : amH} (h : lawI hp) (hH1 : bHk 84 bTT hp1) (hF : bFr [(83, 999)] hp hp1) : lawI hp1 := lawI_fr h hH1 (P0_W (W := [(83, 999)]) (by decide) hF h.2.1) hF rfl rfl
theorem recv0 {hp : amH} (hH : bHk 84 bTT hp) (r : List Value) : amRecv 0 10 hp (.ref 0 :: r) = true := by
  obtain ⟨c, g1, g2⟩ := bHk_at hH (i := 0) (by decide) rfl
  unfold amRecv
  dsimp only
  rw [if_pos rfl, g1]
  have g2 : c.1 = 10 := g2.1
  exact decide_eq_true ⟨g2, by decide⟩
theorem recv66 {hp : amH} (hH : bHk 84 bTT hp) (r : List Value) : amRecv 0 11 hp (.ref 66 :: r) = true := by
  obtain ⟨vs, h1, -⟩ := x66 hH
  unfold amRecv
  dsimp only
  rw [if_pos rfl, h1]
  rfl
def yI (s : bSp) : Bool := s.2.2.2.2.2.all (fun c => match c.1 with
  | some (.inl _) => true
  | _ => false)
def yT (t : Nat) (s : bSp) : Bool := s.2.2.2.2.2.all (fun c => match c.1 with
  | some (.inr (.inl u)) => Nat.beq u t
  | _ => false)
theorem a0r : bYr 84 (.inr (.inr [0])) (.ref 0) := ⟨0, rfl, by decide, by simp⟩
theorem ai (x : Int32) : bYr 84 (.inl (0, 4294967295)) (.int x) := ⟨x, rfl, Nat.zero_le _, bOff_le x⟩
theorem bT1 {w : Value} (h : bT 1 w) : ∃ x, w = .long x := by
  rcases h with ⟨-, h⟩ | ⟨h, -⟩ | ⟨h, -⟩ | ⟨h, -⟩ | ⟨h, -⟩
  · exact h
  · omega
  · omega
  · omega
  · exact absurd h (by decide)
end
/-! ##### 19.m.024.27d ##### -/
section
/-! ===== the law's five calls of the text, both sides ===== -/
def gAp1 (x1 x2 x3 x4 x5 : Int32) (n : Nat) (hp : amH) (z : Int32) (hp1 : amH) : Prop := bHk 84 bTT hp1 ∧ bFr wTx hp hp1 ∧ ((n ≤ 580 ∧ rN hp1 1 0 = (n : Int) + 20 ∧ z.toInt = (n : Int) + 20 ∧ (∀ k, k < n → rN hp1 2 k = rN hp 2 k) ∧ ∀ j, j < 20 → rN hp1 2 (n + j) % 256 = bytE x1 x2 x3 x4 x5 j) ∨ (580 < n ∧ hp1 = hp ∧ z.toInt = -1))
def gAp2 (x1 x2 x3 x4 x5 : Int32) (n : Nat) (hp : amH) (z : Int32) (hp1 : amH) : Prop := bHk 84 bTT hp1 ∧ bFr ((66, 7) :: wAp) hp hp1 ∧ ((n ≤ 580 ∧ rN hp1 66 21 = (n : Int) + 20 ∧ z.toInt = (n : Int) + 20 ∧ (∀ k, k < n → rN hp1 80 k = rN hp 80 k) ∧ ∀ j, j < 20 → rN hp1 80 (n + j) = bytE x1 x2 x3 x4 x5 j) ∨ (580 < n ∧ rN hp1 66 21 = rN hp 66 21 ∧ (∀ k, rN hp1 80 k = rN hp 80 k) ∧ z.toInt = -1))
theorem law_ap {x1 x2 x3 x4 x5 : Int32} {n : Nat} {hp hp1 hp2 : amH} {z1 z2 : Int32} (hI : lawI hp) (h0 : rN hp 1 0 = (n : Int)) (g1 : gAp1 x1 x2 x3 x4 x5 n hp z1 hp1) (g2 : gAp2 x1 x2 x3 x4 x5 n hp1 z2 hp2) : lawI hp2 ∧ z1.toInt = z2.toInt := by
  obtain ⟨H1, F1, V1⟩ := g1
  obtain ⟨H2, F2, V2⟩ := g2
  obtain ⟨-, hP, h3, h4, h5, h6⟩ := hI
  have a0 : rN hp2 1 0 = rN hp1 1 0 := r_fr F2 rfl
  have a21 : rN hp1 66 21 = rN hp 66 21 := r_fr F1 rfl
  have a2 : ∀ k, rN hp2 2 k = rN hp1 2 k := fun k => r_fr F2 rfl
  have a80 : ∀ k, rN hp1 80 k = rN hp 80 k := fun k => r_fr F1 rfl
  have old := bt_of h4 h3
  have hn : rN hp2 1 0 = rN hp2 66 21 := by
    rcases V1 with ⟨v1, v2, -⟩ | ⟨v1, rfl, -⟩
    · rcases V2 with ⟨w1, w2, -⟩ | ⟨w1, -⟩ <;> omega
    · rcases V2 with ⟨w1, -⟩ | ⟨w1, w2, -⟩ <;> omega
  refine ⟨⟨H2, P0_W (W := (66, 7) :: wAp) (by decide) F2 (P0_W (W := wTx) (by decide) F1 hP), hn, bt_to hn (fun k hk => ?_), ?_, ?_⟩, ?_⟩
  · rcases V1 with ⟨v1, v2, v3, v4, v5⟩ | ⟨v1, rfl, v3⟩
    · rcases V2 with ⟨w1, w2, w3, w4, w5⟩ | ⟨w1, -⟩
      · rcases Nat.lt_or_ge k n with g | g
        · rw [a2, v4 k g, w4 k g, a80]
          exact old k (by omega)
        · have e1 := v5 (k - n) (by omega)
          have e2 := w5 (k - n) (by omega)
          rw [show n + (k - n) = k by omega] at e1 e2
          rw [a2, e1, e2]
      · omega
    · rcases V2 with ⟨w1, -⟩ | ⟨w1, w2, w3, w4⟩
      · omega
      · rw [a2, w3]
        exact old k (by omega)
  · rw [show rN hp2 1 1 = rN hp1 1 1 from r_fr F2 rfl, show rN hp1 1 1 = rN hp 1 1 from r_fr F1 rfl, show rN hp2 66 22 = rN hp1 66 22 from r_fr F2 rfl, show rN hp1 66 22 = rN hp 66 22 from r_fr F1 rfl]
    exact h5
  · rw [show rN hp2 1 2 = rN hp1 1 2 from r_fr F2 rfl, show rN hp1 1 2 = rN hp 1 2 from r_fr F1 rfl, show rN hp2 66 23 = rN hp1 66 23 from r_fr F2 rfl, show rN hp1 66 23 = rN hp 66 23 from r_fr F1 rfl]
    exact h6
  · rcases V1 with ⟨v1, v2, v3, -⟩ | ⟨v1, v2, v3⟩
    · rcases V2 with ⟨w1, w2, w3, -⟩ | ⟨w1, -⟩ <;> omega
    · rcases V2 with ⟨w1, -⟩ | ⟨w1, w2, -, w3⟩ <;> omega
def gTr1 (x : Int32) (hp : amH) (z : Int32) (hp1 : amH) : Prop := bHk 84 bTT hp1 ∧ bFr [(1, 0)] hp hp1 ∧ ((0 ≤ x.toInt ∧ x.toInt ≤ rN hp 1 0 ∧ rN hp1 1 0 = x.toInt ∧ z.toInt = 1) ∨ ((x.toInt < 0 ∨ rN hp 1 0 < x.toInt) ∧ rN hp1 1 0 = rN hp 1 0 ∧ z.toInt = 0))
def gTr2 (x : Int32) (hp : amH) (z : Int32) (hp1 : amH) : Prop := bHk 84 bTT hp1 ∧ bFr [(66, 7), (66, 21)] hp hp1 ∧ ((0 ≤ x.toInt ∧ x.toInt ≤ rN hp 66 21 ∧ rN hp1 66 21 = x.toInt ∧ z.toInt = 1) ∨ ((x.toInt < 0 ∨ rN hp 66 21 < x.toInt) ∧ rN hp1 66 21 = rN hp 66 21 ∧ z.toInt = 0))
theorem law_tr {x : Int32} {hp hp1 hp2 : amH} {z1 z2 : Int32} (hI : lawI hp) (g1 : gTr1 x hp z1 hp1) (g2 : gTr2 x hp1 z2 hp2) : lawI hp2 ∧ z1.toInt = z2.toInt := by
  obtain ⟨H1, F1, V1⟩ := g1
  obtain ⟨H2, F2, V2⟩ := g2
  obtain ⟨-, hP, h3, h4, h5, h6⟩ := hI
  have a0 : rN hp2 1 0 = rN hp1 1 0 := r_fr F2 rfl
  have a21 : rN hp1 66 21 = rN hp 66 21 := r_fr F1 rfl
  have old := bt_of h4 h3
  have hn : rN hp2 1 0 = rN hp2 66 21 := by omega
  refine ⟨⟨H2, P0_W (W := [(66, 7), (66, 21)]) (by decide) F2 (P0_W (W := [(1, 0)]) (by decide) F1 hP), hn, bt_to hn (fun k hk => ?_), ?_, ?_⟩, by omega⟩
  · rw [show rN hp2 2 k = rN hp1 2 k from r_fr F2 rfl, show rN hp1 2 k = rN hp 2 k from r_fr F1 rfl, show rN hp2 80 k = rN hp1 80 k from r_fr F2 rfl, show rN hp1 80 k = rN hp 80 k from r_fr F1 rfl]
    exact old k (by omega)
  · rw [show rN hp2 1 1 = rN hp1 1 1 from r_fr F2 rfl, show rN hp1 1 1 = rN hp 1 1 from r_fr F1 rfl, show rN hp2 66 22 = rN hp1 66 22 from r_fr F2 rfl, show rN hp1 66 22 = rN hp 66 22 from r_fr F1 rfl]
    exact h5
  · rw [show rN hp2 1 2 = rN hp1 1 2 from r_fr F2 rfl, show rN hp1 1 2 = rN hp 1 2 from r_fr F1 rfl, show rN hp2 66 23 = rN hp1 66 23 from r_fr F2 rfl, show rN hp1 66 23 = rN hp 66 23 from r_fr F1 rfl]
    exact h6
end
