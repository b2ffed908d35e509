/-! ===== the reference reads a statement ===== -/
theorem P0_tk {hp hp1 : amH} (hF : bFr wTK hp hp1) (hP : P0 hp) : P0 hp1 := P0_W (W := wTK) (by decide) hF hP
theorem rB_tk {hp hp1 : amH} (hF : bFr wTK hp hp1) : rB hp1 = rB hp := rB_F hF rfl (fun _ => rfl)
theorem rB_rs {hp hp1 : amH} (hF : bFr wRS hp hp1) : rB hp1 = rB hp := rB_F hF rfl (fun _ => rfl)
def rSr (y : tY) (V : Nat) (T : sT) (s : Nat) (z : Int) (hp hp1 : amH) : Prop := match tSt y V T s with
  | .inl e => z = 0 ∧ rN hp1 66 24 = e.1 ∧ rN hp1 66 25 = (e.2 : Int)
  | .inr q => z = 1 ∧ rdOk hp1 V q.1 ∧ (∃ s4, rT hp1 y s4 ∧ q.2 = tN y s4 ∧ (s4 : Int) ≤ rN hp1 66 21) ∧ rN hp1 66 24 = 0 ∧ rN hp1 66 25 = rN hp 66 25 ∧ ∀ i, 1 ≤ i → i < 4 → rN hp1 67 i = rN hp 67 i
theorem rSr_e {y : tY} {V : Nat} {T : sT} {s : Nat} {z : Int} {hp hp1 : amH} {c : Int} {q : Nat} (e : tSt y V T s = .inl (c, q)) (hz : z = 0) (h1 : rN hp1 66 24 = c) (h2 : rN hp1 66 25 = (q : Int)) : rSr y V T s z hp hp1 := by
  unfold rSr
  rw [e]
  exact ⟨hz, h1, h2⟩
theorem rSr_s {y : tY} {V : Nat} {T : sT} {s : Nat} {z : Int} {hp hp1 : amH} {T1 : sT} {q s4 : Nat} (e : tSt y V T s = .inr (T1, q)) (hz : z = 1) (h1 : rdOk hp1 V T1) (h2 : rT hp1 y s4) (h2b : q = tN y s4) (h2c : (s4 : Int) ≤ rN hp1 66 21) (h3 : rN hp1 66 24 = 0) (h4 : rN hp1 66 25 = rN hp 66 25) (h5 : ∀ i, 1 ≤ i → i < 4 → rN hp1 67 i = rN hp 67 i) : rSr y V T s z hp hp1 := by
  unfold rSr
  rw [e]
  exact ⟨hz, h1, ⟨s4, h2, h2b, h2c⟩, h3, h4, h5⟩
theorem m247 {d : Nat} {hp : amH} {R : xQ} {y : tY} {s V kk : Nat} {T : sT} {pre : List Int} {g k : Int32} (hH : bHk 84 bTT hp) (hP : P0 hp) (Y : rB hp = y) (hT : rT hp y s) (hs : (s : Int) ≤ rN hp 66 21) (hB : rdOk hp V T) (h0 : rN hp 66 24 = 0) (hl : pre.length = kk) (hpre : ∀ k, k < kk → rN hp 81 k = pre.getD k 0) (hk : k.toInt = (kk : Int)) (hk3 : kk < 3)
    (hE : ∀ (z : Int32) hp1, ¬ tNum y s 0 ((V : Int) - 1) pre = 0 → z.toInt = 0 → bHk 84 bTT hp1 → bFr wTK hp hp1 → rN hp1 66 24 = tNum y s 0 ((V : Int) - 1) pre → rN hp1 66 25 = (s : Int) → R (.inl (some (.int z))) hp1)
    (hN : ∀ (k1 : Int32) hp1, tNum y s 0 ((V : Int) - 1) pre = 0 → bHk 84 bTT hp1 → bFr wTK hp hp1 → rT hp1 y (tN y s) → rN hp1 66 24 = 0 → rN hp1 66 25 = rN hp 66 25 → (∀ k, k < kk → rN hp1 81 k = rN hp 81 k) → rN hp1 81 kk = tV y s → k1.toInt = (kk : Int) + 1 → xV (d + 5) am_m247 6 [some (.ref 66), some (.int g), some (.int k1)] [] hp1 R) :
    xV (d + 5) am_m247 6 [some (.ref 66), some (.int g), some (.int k)] [] hp R := by
  have bV := hB.2.1.2.1
  have bV1 := hB.2.1.1
  have bP := hB.1
  refine xild 7 ⟨u247, _, rfl⟩ rfl rfl ?_
  refine xcst 8 (3) ⟨u247, _, rfl⟩ rfl (by decide) (fun z7 h7 => ?_)
  refine xcmp_ge 11 ⟨u247, _, rfl⟩ rfl (fun c8 => ?_) (fun c8 => ?_)
  · omega
  · refine xald 12 ⟨u247, _, rfl⟩ rfl rfl ?_
    refine xild 13 ⟨u247, _, rfl⟩ rfl rfl ?_
    refine xcst 14 (0) ⟨u247, _, rfl⟩ rfl (by decide) (fun z13 h13 => ?_)
    refine xald 15 ⟨u247, _, rfl⟩ rfl rfl ?_
    refine xcall 18 [.ref 66] [.int _, .int _, .ref 66] hH ⟨u247, _, rfl⟩ rfl rfl rfl rfl rfl (k_points hH (fun z15 h15 => ⟨_, rfl, ?_⟩))
    refine xcst 19 (1) ⟨u247, _, rfl⟩ rfl (by decide) (fun z18 h18 => ?_)
    refine xsub 20 _ ⟨u247, _, rfl⟩ rfl rfl (by omega) (by omega) (fun z19 h19 => ?_)
    refine xcall 23 [.ref 66, .int _, .int _, .int _] [] hH ⟨u247, _, rfl⟩ rfl rfl rfl rfl rfl (k_tkp hH Y hT hs h0 hk (by omega) hl hpre (fun z20 hp20 hH20 F20 r20 => ⟨_, rfl, ?_⟩))
    rw [h13, show z19.toInt = (V : Int) - 1 by omega] at r20
    refine xif_ne 26 ⟨u247, _, rfl⟩ rfl (fun c23 => ?_) (fun c23 => ?_)
    · refine xinc 31 (1) ⟨u247, _, rfl⟩ rfl rfl rfl (by decide) (by omega) (by omega) (fun z28 h28 => ?_)
      refine xgoto ⟨u247, _, rfl⟩ ?_
      rcases r20 with ⟨r1, r2, r3, r4, r5, r6, r7⟩ | r
      · exact hN _ hp20 r1 hH20 F20 r5 r6 r7 r4 r3 (by omega)
      · omega
    · refine xcst 27 (0) ⟨u247, _, rfl⟩ rfl (by decide) (fun z26 h26 => ?_)
      rcases r20 with r | ⟨r1, r2, r3, r4⟩
      · omega
      · exact xretB ⟨u247, _, rfl⟩ rfl (by omega) (hE _ hp20 r1 (by omega) hH20 F20 r3 r4)
theorem rT_67 {hp hp1 : amH} {y : tY} {s : Nat} (h : rT hp y s) (F : bFr [(67, 999)] hp hp1) : rT hp1 y s := by
  unfold rT
  rw [show rN hp1 66 27 = rN hp 66 27 from r_fr F rfl, show rN hp1 66 26 = rN hp 66 26 from r_fr F rfl, show rN hp1 66 29 = rN hp 66 29 from r_fr F rfl, show rN hp1 66 28 = rN hp 66 28 from r_fr F rfl]
  exact h
/-- what is developed begins with the triple itself -/
theorem dv_fr {V a b c : Nat} {T : sT} (hV : 0 < V) (ha : a < V) (hb : b < V) (hc : c < V) (h : ¬ sDv V a b c V 0 T 0 = none) : sFree T a b c := by
  obtain ⟨f, rfl⟩ : ∃ f, V = f + 1 := ⟨V - 1, by omega⟩
  unfold sDv at h
  rw [if_neg (by omega)] at h
  simp only [Nat.add_zero] at h
  rw [Nat.mod_eq_of_lt ha, Nat.mod_eq_of_lt hb, Nat.mod_eq_of_lt hc] at h
  apply Classical.byContradiction
  intro z
  rw [if_neg z] at h
  exact h rfl
theorem f247 {d : Nat} {hp0 hp : amH} {R : xQ} {y : tY} {s V : Nat} {T : sT} {g k : Int32} {v1 v2 v3 : Nat} (hH : bHk 84 bTT hp) (hP : P0 hp) (hF : bFr wRS hp0 hp) (hk2 : rN hp 66 25 = rN hp0 66 25) (hw4 : ∀ i, 1 ≤ i → i < 4 → rN hp 67 i = rN hp0 67 i) (Y : rB hp = y) (hT : rT hp y (tN y (tN y (tN y (tN y s))))) (hs : ((tN y (tN y (tN y (tN y s))) : Nat) : Int) ≤ rN hp 66 21) (hB : rdOk hp V T) (h0 : rN hp 66 24 = 0) (hg : tGo y V s) (e1 : tV y (tN y s) = (v1 : Int)) (e2 : tV y (tN y (tN y s)) = (v2 : Int)) (e3 : tV y (tN y (tN y (tN y s))) = (v3 : Int)) (l1 : v1 < V) (l2 : v2 < V) (l3 : v3 < V) (n12 : ¬ v1 = v2) (n23 : ¬ v2 = v3) (n13 : ¬ v1 = v3)
    (q1 : rN hp 81 0 = (v1 : Int)) (q2 : rN hp 81 1 = (v2 : Int)) (q3 : rN hp 81 2 = (v3 : Int)) (hk : k.toInt = 3) (hdv : (g.toInt = 1 ∧ tWd y s wDev = true) ∨ (g.toInt = 0 ∧ tWd y s wTri = true))
    (hR : ∀ (z : Int32) hp1, bHk 84 bTT hp1 → P0 hp1 → bFr wRS hp0 hp1 → rSr y V T s z.toInt hp0 hp1 → R (.inl (some (.int z))) hp1) :
    xV (d + 5) am_m247 6 [some (.ref 66), some (.int g), some (.int k)] [] hp R := by
  have bV := hB.2.1.2.1
  have K0 := hT.2.2.1
  have hTs := hT.1
  have go := tSt_go (T := T) hg
  rw [e1, e2, e3, Int.toNat_natCast, Int.toNat_natCast, Int.toNat_natCast] at go
  refine xild 7 ⟨u247, _, rfl⟩ rfl rfl ?_
  refine xcst 8 (3) ⟨u247, _, rfl⟩ rfl (by decide) (fun z7 h7 => ?_)
  refine xcmp_ge 11 ⟨u247, _, rfl⟩ rfl (fun c8 => ?_) (fun c8 => ?_)
  · refine xald 35 ⟨u247, _, rfl⟩ rfl rfl ?_
    refine xgetI 38 hH ⟨u247, _, rfl⟩ rfl rfl (fun z35 h35 => ?_)
    refine xcst 39 (3) ⟨u247, _, rfl⟩ rfl (by decide) (fun z38 h38 => ?_)
    refine xcmp_eq 42 ⟨u247, _, rfl⟩ rfl (fun c39 => ?_) (fun c39 => ?_)
    · have k3 : tK y (tN y (tN y (tN y (tN y s)))) = 3 := by omega
      rw [if_neg (fun z => z k3)] at go
      refine xild 49 ⟨u247, _, rfl⟩ rfl rfl ?_
      refine xif_eq 52 ⟨u247, _, rfl⟩ rfl (fun c49 => ?_) (fun c49 => ?_)
      · have wd : tWd y s wTri = true := by rcases hdv with g | g; omega; exact g.2
        refine xald 93 ⟨u247, _, rfl⟩ rfl rfl ?_
        refine xald 94 ⟨u247, _, rfl⟩ rfl rfl ?_
        refine xgetR 97 81 hH ⟨u247, _, rfl⟩ rfl rfl ?_
        refine xcst 98 (0) ⟨u247, _, rfl⟩ rfl (by decide) (fun z97 h97 => ?_)
        refine xiald 99 (z97).toInt.toNat hH ⟨u247, _, rfl⟩ rfl (by decide) rfl (by omega) (by omega) (fun z98 h98 => ?_)
        refine xald 100 ⟨u247, _, rfl⟩ rfl rfl ?_
        refine xgetR 103 81 hH ⟨u247, _, rfl⟩ rfl rfl ?_
        refine xcst 104 (1) ⟨u247, _, rfl⟩ rfl (by decide) (fun z103 h103 => ?_)
        refine xiald 105 (z103).toInt.toNat hH ⟨u247, _, rfl⟩ rfl (by decide) rfl (by omega) (by omega) (fun z104 h104 => ?_)
        refine xald 106 ⟨u247, _, rfl⟩ rfl rfl ?_
        refine xgetR 109 81 hH ⟨u247, _, rfl⟩ rfl rfl ?_
        refine xcst 110 (2) ⟨u247, _, rfl⟩ rfl (by decide) (fun z109 h109 => ?_)
        refine xiald 111 (z109).toInt.toNat hH ⟨u247, _, rfl⟩ rfl (by decide) rfl (by omega) (by omega) (fun z110 h110 => ?_)
        refine xcall 114 [.ref 66, .int _, .int _, .int _] [] hH ⟨u247, _, rfl⟩ rfl rfl rfl rfl rfl (k_rfree hH hB (by rw [h98, show z97.toInt.toNat = 0 by omega]; exact q1) (by rw [h104, show z103.toInt.toNat = 1 by omega]; exact q2) (by rw [h110, show z109.toInt.toNat = 2 by omega]; exact q3) l1 l2 l3 (fun z111 h111 => ⟨_, rfl, ?_⟩))
        refine xif_ne 117 ⟨u247, _, rfl⟩ rfl (fun c114 => ?_) (fun c114 => ?_)
        · have fr : sFree T v1 v2 v3 := by rcases h111 with g | g; exact g.2; omega
          rw [if_neg (fun z => z fr), if_pos wd] at go
          refine xald 124 ⟨u247, _, rfl⟩ rfl rfl ?_
          refine xald 125 ⟨u247, _, rfl⟩ rfl rfl ?_
          refine xgetR 128 81 hH ⟨u247, _, rfl⟩ rfl rfl ?_
          refine xcst 129 (0) ⟨u247, _, rfl⟩ rfl (by decide) (fun z128 h128 => ?_)
          refine xiald 130 (z128).toInt.toNat hH ⟨u247, _, rfl⟩ rfl (by decide) rfl (by omega) (by omega) (fun z129 h129 => ?_)
          refine xald 131 ⟨u247, _, rfl⟩ rfl rfl ?_
          refine xgetR 134 81 hH ⟨u247, _, rfl⟩ rfl rfl ?_
          refine xcst 135 (1) ⟨u247, _, rfl⟩ rfl (by decide) (fun z134 h134 => ?_)
          refine xiald 136 (z134).toInt.toNat hH ⟨u247, _, rfl⟩ rfl (by decide) rfl (by omega) (by omega) (fun z135 h135 => ?_)
          refine xald 137 ⟨u247, _, rfl⟩ rfl rfl ?_
          refine xgetR 140 81 hH ⟨u247, _, rfl⟩ rfl rfl ?_
          refine xcst 141 (2) ⟨u247, _, rfl⟩ rfl (by decide) (fun z140 h140 => ?_)
          refine xiald 142 (z140).toInt.toNat hH ⟨u247, _, rfl⟩ rfl (by decide) rfl (by omega) (by omega) (fun z141 h141 => ?_)
          refine xcall 145 [.ref 66, .int _, .int _, .int _] [] hH ⟨u247, _, rfl⟩ rfl rfl rfl rfl rfl (k_rput hH hP hB (by rw [h129, show z128.toInt.toNat = 0 by omega]; exact q1) (by rw [h135, show z134.toInt.toNat = 1 by omega]; exact q2) (by rw [h141, show z140.toInt.toNat = 2 by omega]; exact q3) l1 l2 l3 n12 n23 n13 fr (fun hp142 hH142 hP142 F142 E142 B142 => ⟨_, rfl, ?_⟩))
          refine xcst 146 (1) ⟨u247, _, rfl⟩ rfl (by decide) (fun z145 h145 => ?_)
          exact xretB ⟨u247, _, rfl⟩ rfl (by omega) (hR _ hp142 hH142 hP142 (hF.trans (bFr_sub F142 (by decide))) (rSr_s go (by omega) B142 (rT_67 hT F142) rfl (by rw [show rN hp142 66 21 = rN hp 66 21 from r_fr F142 rfl]; exact hs) (by rw [show rN hp142 66 24 = rN hp 66 24 from r_fr F142 rfl]; exact h0) (by rw [show rN hp142 66 25 = rN hp 66 25 from r_fr F142 rfl]; exact hk2) (fun i i1 i2 => (E142 i i2).trans (hw4 i i1 i2))))
        · have fr : ¬ sFree T v1 v2 v3 := by rcases h111 with g | g; omega; exact g.2
          rw [if_pos fr] at go
          refine xald 118 ⟨u247, _, rfl⟩ rfl rfl ?_
          refine xcst 119 (3) ⟨u247, _, rfl⟩ rfl (by decide) (fun z118 h118 => ?_)
          refine xcall 122 [.ref 66, .int _] [] hH ⟨u247, _, rfl⟩ rfl rfl rfl rfl rfl (k_rf hH h0 (fun z119 hp119 Z119 hH119 F119 A119 B119 => ⟨_, rfl, ?_⟩))
          exact xretB ⟨u247, _, rfl⟩ rfl (by omega) (hR _ hp119 hH119 (P0_tk (bFr_sub F119 (by decide)) hP) (hF.trans (bFr_sub F119 (by decide))) (rSr_e go (by omega) (by omega) (by omega)))
      · have wd : tWd y s wDev = true := by rcases hdv with g | g; exact g.2; omega
        refine xald 53 ⟨u247, _, rfl⟩ rfl rfl ?_
        refine xald 54 ⟨u247, _, rfl⟩ rfl rfl ?_
        refine xgetR 57 81 hH ⟨u247, _, rfl⟩ rfl rfl ?_
        refine xcst 58 (0) ⟨u247, _, rfl⟩ rfl (by decide) (fun z57 h57 => ?_)
        refine xiald 59 (z57).toInt.toNat hH ⟨u247, _, rfl⟩ rfl (by decide) rfl (by omega) (by omega) (fun z58 h58 => ?_)
        refine xald 60 ⟨u247, _, rfl⟩ rfl rfl ?_
        refine xgetR 63 81 hH ⟨u247, _, rfl⟩ rfl rfl ?_
        refine xcst 64 (1) ⟨u247, _, rfl⟩ rfl (by decide) (fun z63 h63 => ?_)
        refine xiald 65 (z63).toInt.toNat hH ⟨u247, _, rfl⟩ rfl (by decide) rfl (by omega) (by omega) (fun z64 h64 => ?_)
        refine xald 66 ⟨u247, _, rfl⟩ rfl rfl ?_
        refine xgetR 69 81 hH ⟨u247, _, rfl⟩ rfl rfl ?_
        refine xcst 70 (2) ⟨u247, _, rfl⟩ rfl (by decide) (fun z69 h69 => ?_)
        refine xiald 71 (z69).toInt.toNat hH ⟨u247, _, rfl⟩ rfl (by decide) rfl (by omega) (by omega) (fun z70 h70 => ?_)
        refine xcall 74 [.ref 66, .int _, .int _, .int _] [] hH ⟨u247, _, rfl⟩ rfl rfl rfl rfl rfl (k_rdvs hH hP hB (by rw [h58, show z57.toInt.toNat = 0 by omega]; exact q1) (by rw [h64, show z63.toInt.toNat = 1 by omega]; exact q2) (by rw [h70, show z69.toInt.toNat = 2 by omega]; exact q3) l1 l2 l3 n12 n23 n13 (fun z71 hp71 hH71 hP71 F71 E71 r71 => ⟨_, rfl, ?_⟩))
        refine xcst 75 (-1) ⟨u247, _, rfl⟩ rfl (by decide) (fun z74 h74 => ?_)
        refine xcmp_ne 78 ⟨u247, _, rfl⟩ rfl (fun c75 => ?_) (fun c75 => ?_)
        · have fr : sFree T v1 v2 v3 := dv_fr (by omega : 0 < V) l1 l2 l3 (fun e => by rw [e] at r71; omega)
          rw [if_neg (fun z => z fr), if_neg (fun z => tWd_ne wd z)] at go
          obtain ⟨q, hq, B71⟩ : ∃ q, sDv V v1 v2 v3 V 0 T 0 = some q ∧ rdOk hp71 V q.1 := by cases e : sDv V v1 v2 v3 V 0 T 0 with
            | none => rw [e] at r71; omega
            | some q => rw [e] at r71; exact ⟨q, rfl, r71.2⟩
          rw [hq] at go
          refine xcst 87 (1) ⟨u247, _, rfl⟩ rfl (by decide) (fun z86 h86 => ?_)
          refine xgoto ⟨u247, _, rfl⟩ ?_
          exact xretB ⟨u247, _, rfl⟩ rfl (by omega) (hR _ hp71 hH71 hP71 (hF.trans (bFr_sub F71 (by decide))) (rSr_s go (by omega) B71 (rT_67 hT F71) rfl (by rw [show rN hp71 66 21 = rN hp 66 21 from r_fr F71 rfl]; exact hs) (by rw [show rN hp71 66 24 = rN hp 66 24 from r_fr F71 rfl]; exact h0) (by rw [show rN hp71 66 25 = rN hp 66 25 from r_fr F71 rfl]; exact hk2) (fun i i1 i2 => (E71 i i2).trans (hw4 i i1 i2))))
        · have hh : sDv V v1 v2 v3 V 0 T 0 = none := by cases e : sDv V v1 v2 v3 V 0 T 0 with
            | none => rfl
            | some q => rw [e] at r71; omega
          refine xald 79 ⟨u247, _, rfl⟩ rfl rfl ?_
          refine xcst 80 (3) ⟨u247, _, rfl⟩ rfl (by decide) (fun z79 h79 => ?_)
          refine xcall 83 [.ref 66, .int _] [] hH71 ⟨u247, _, rfl⟩ rfl rfl rfl rfl rfl (k_rf hH71 (by rw [show rN hp71 66 24 = rN hp 66 24 from r_fr F71 rfl]; exact h0) (fun z80 hp80 Z80 hH80 F80 A80 B80 => ⟨_, rfl, ?_⟩))
          refine xif_eq 86 ⟨u247, _, rfl⟩ rfl (fun c83 => ?_) (fun c83 => ?_)
          · have go : tSt y V T s = .inl (3, tN y (tN y (tN y (tN y s)))) := by rw [go]; split; rfl; rw [if_neg (fun z => tWd_ne wd z), hh]
            refine xcst 91 (0) ⟨u247, _, rfl⟩ rfl (by decide) (fun z90 h90 => ?_)
            exact xretB ⟨u247, _, rfl⟩ rfl (by omega) (hR _ hp80 hH80 (P0_tk (bFr_sub F80 (by decide)) hP71) ((hF.trans (bFr_sub F71 (by decide))).trans (bFr_sub F80 (by decide))) (rSr_e go (by omega) (by omega) (by rw [B80, show rN hp71 66 27 = rN hp 66 27 from r_fr F71 rfl]; exact hTs)))
          · omega
    · refine xald 43 ⟨u247, _, rfl⟩ rfl rfl ?_
      refine xcst 44 (1) ⟨u247, _, rfl⟩ rfl (by decide) (fun z43 h43 => ?_)
      refine xcall 47 [.ref 66, .int _] [] hH ⟨u247, _, rfl⟩ rfl rfl rfl rfl rfl (k_rf hH h0 (fun z44 hp44 Z44 hH44 F44 A44 B44 => ⟨_, rfl, ?_⟩))
      exact xretB ⟨u247, _, rfl⟩ rfl (by omega) (hR _ hp44 hH44 (P0_tk (bFr_sub F44 (by decide)) hP) (hF.trans (bFr_sub F44 (by decide))) (rSr_e (by rw [go, if_pos (fun z => c39 (by omega))]) (by omega) (by omega) (by omega)))
  · omega
