/-! ===== ways by hand: triples read ===== -/
def wRS : List (Nat × Nat) := (67, 999) :: wTK
def wF67 : List (Nat × Nat) := [(67, 999), (66, 24), (66, 25)]
/-- points read so far -/
def T3 (hp0 hp : amH) (k : Nat) : Prop := bFr wTK hp0 hp ∧ PA hp ∧ rN hp0 66 26 ≤ rN hp 66 26 ∧ (∀ i, i < k → 0 ≤ rN hp 81 i ∧ rN hp 81 i ≤ rN hp 67 0 - 1) ∧ (∀ i j, i < j → j < k → ¬ rN hp 81 i = rN hp 81 j)
/-- what comes of reading a statement -/
def ST (hp0 hp : amH) : Prop := bFr wRS hp0 hp ∧ PA hp ∧ rN hp0 66 26 ≤ rN hp 66 26
theorem T3_next {hp0 hp hp1 : amH} {k : Nat} {z mx : Int} (h : T3 hp0 hp k) (hz : ¬ z = 0) (hm : mx = rN hp 67 0 - 1) (V : TPt hp hp1 k 0 mx z) : T3 hp0 hp1 (k + 1) := by
  obtain ⟨t1, t2, t3, t4, t5⟩ := h
  obtain ⟨v1, v2, v3, v4⟩ := V
  rcases v4 with v | ⟨-, w2, w3, w4⟩
  · exact absurd v hz
  · have e0 : rN hp1 67 0 = rN hp 67 0 := r_fr v1 rfl
    refine ⟨t1.trans v1, v2, by omega, fun i hi => ?_, fun i j hij hj => ?_⟩
    · by_cases e : i = k
      · subst e; exact ⟨by omega, by omega⟩
      · have := (w4 i (by omega)).1
        have := t4 i (by omega)
        exact ⟨by omega, by omega⟩
    · by_cases e : j = k
      · subst e; exact (w4 i hij).2
      · have a := (w4 i (by omega)).1
        have b := (w4 j (by omega)).1
        have c := t5 i j hij (by omega)
        rw [a, b]; exact c
theorem e247 {d : Nat} {hp0 hp : amH} {R : xQ} {g k : Int32} (hR : ∀ (z : Int32) hp1, bHk 84 bTT hp1 → P0 hp1 → ST hp0 hp1 → (z.toInt = 0 ∨ z.toInt = 1) → R (.inl (some (.int z))) hp1) (hH : bHk 84 bTT hp) (hP : P0 hp) (hT : T3 hp0 hp 3) : xV (d + 5) am_m247 34 [some (.ref 66), some (.int g), some (.int k)] [] hp R := by
  have a0 := hT.2.2.2.1 0 (by omega)
  have a1 := hT.2.2.2.1 1 (by omega)
  have a2 := hT.2.2.2.1 2 (by omega)
  have n01 := hT.2.2.2.2 0 1 (by omega) (by omega)
  have n12 := hT.2.2.2.2 1 2 (by omega) (by omega)
  have n02 := hT.2.2.2.2 0 2 (by omega) (by omega)
  have q1 := hP.1.1
  have q2 := hP.1.2.1
  have fin : ∀ (z : Int32) hp1, bHk 84 bTT hp1 → P0 hp1 → bFr wF67 hp hp1 → (z.toInt = 0 ∨ z.toInt = 1) → R (.inl (some (.int z))) hp1 := fun z hp1 g1 g2 g3 g4 =>
    hR z hp1 g1 g2 ⟨(bFr_sub hT.1 (by decide)).trans (bFr_sub g3 (by decide)), PA_e (r_fr g3 rfl) (r_fr g3 rfl) (r_fr g3 rfl) hT.2.1, by rw [show rN hp1 66 26 = rN hp 66 26 from r_fr g3 rfl]; exact hT.2.2.1⟩ g4
  refine xald 35 ⟨u247, _, rfl⟩ rfl rfl ?_
  refine xgetI 38 hH ⟨u247, _, rfl⟩ rfl rfl (fun z35 h35 => ?_)
  refine xcst 39 (3) ⟨u247, _, rfl⟩ rfl (by decide) (fun z38 h38 => ?_)
  refine xcmp_eq 42 ⟨u247, _, rfl⟩ rfl (fun c39 => ?_) (fun c39 => ?_)
  · refine xild 49 ⟨u247, _, rfl⟩ rfl rfl ?_
    refine xif_eq 52 ⟨u247, _, rfl⟩ rfl (fun c49 => ?_) (fun c49 => ?_)
    · refine xald 93 ⟨u247, _, rfl⟩ rfl rfl ?_
      refine xald 94 ⟨u247, _, rfl⟩ rfl rfl ?_
      refine xgetR 97 81 hH ⟨u247, _, rfl⟩ rfl rfl ?_
      refine xcst 98 (0) ⟨u247, _, rfl⟩ rfl (by decide) (fun z97 h97 => ?_)
      refine xiald 99 0 hH ⟨u247, _, rfl⟩ rfl (by decide) rfl (by omega) (by omega) (fun z98 h98 => ?_)
      refine xald 100 ⟨u247, _, rfl⟩ rfl rfl ?_
      refine xgetR 103 81 hH ⟨u247, _, rfl⟩ rfl rfl ?_
      refine xcst 104 (1) ⟨u247, _, rfl⟩ rfl (by decide) (fun z103 h103 => ?_)
      refine xiald 105 1 hH ⟨u247, _, rfl⟩ rfl (by decide) rfl (by omega) (by omega) (fun z104 h104 => ?_)
      refine xald 106 ⟨u247, _, rfl⟩ rfl rfl ?_
      refine xgetR 109 81 hH ⟨u247, _, rfl⟩ rfl rfl ?_
      refine xcst 110 (2) ⟨u247, _, rfl⟩ rfl (by decide) (fun z109 h109 => ?_)
      refine xiald 111 2 hH ⟨u247, _, rfl⟩ rfl (by decide) rfl (by omega) (by omega) (fun z110 h110 => ?_)
      refine xcall 114 [.ref 66, .int _, .int _, .int _] [] hH ⟨u247, _, rfl⟩ rfl rfl rfl rfl rfl (k_free hH (by omega) (by omega) (by omega) (by omega) (by omega) (by omega) (fun z111 h111 => ⟨_, rfl, ?_⟩))
      refine xif_ne 117 ⟨u247, _, rfl⟩ rfl (fun c114 => ?_) (fun c114 => ?_)
      · refine xald 124 ⟨u247, _, rfl⟩ rfl rfl ?_
        refine xald 125 ⟨u247, _, rfl⟩ rfl rfl ?_
        refine xgetR 128 81 hH ⟨u247, _, rfl⟩ rfl rfl ?_
        refine xcst 129 (0) ⟨u247, _, rfl⟩ rfl (by decide) (fun z128 h128 => ?_)
        refine xiald 130 0 hH ⟨u247, _, rfl⟩ rfl (by decide) rfl (by omega) (by omega) (fun z129 h129 => ?_)
        refine xald 131 ⟨u247, _, rfl⟩ rfl rfl ?_
        refine xgetR 134 81 hH ⟨u247, _, rfl⟩ rfl rfl ?_
        refine xcst 135 (1) ⟨u247, _, rfl⟩ rfl (by decide) (fun z134 h134 => ?_)
        refine xiald 136 1 hH ⟨u247, _, rfl⟩ rfl (by decide) rfl (by omega) (by omega) (fun z135 h135 => ?_)
        refine xald 137 ⟨u247, _, rfl⟩ rfl rfl ?_
        refine xgetR 140 81 hH ⟨u247, _, rfl⟩ rfl rfl ?_
        refine xcst 141 (2) ⟨u247, _, rfl⟩ rfl (by decide) (fun z140 h140 => ?_)
        refine xiald 142 2 hH ⟨u247, _, rfl⟩ rfl (by decide) rfl (by omega) (by omega) (fun z141 h141 => ?_)
        refine xcall 145 [.ref 66, .int _, .int _, .int _] [] hH ⟨u247, _, rfl⟩ rfl rfl rfl rfl rfl (k_put hH hP (by omega) (by omega) (by omega) (by omega) (by omega) (by omega) (by omega) (by omega) (by omega) (by
          rcases h111 with ⟨-, f⟩ | ⟨f, -⟩
          · rw [show z129.toInt.toNat = z98.toInt.toNat by omega, show z135.toInt.toNat = z104.toInt.toNat by omega, show z141.toInt.toNat = z110.toInt.toNat by omega]; exact f
          · omega) (fun hp142 hH142 hP142 F142 E142 T142 => ⟨_, rfl, ?_⟩))
        refine xcst 146 (1) ⟨u247, _, rfl⟩ rfl (by decide) (fun z145 h145 => ?_)
        exact xretB ⟨u247, _, rfl⟩ rfl (by omega) (fin _ hp142 hH142 hP142 (bFr_sub F142 (by decide)) (by omega))
      · refine xald 118 ⟨u247, _, rfl⟩ rfl rfl ?_
        refine xcst 119 (3) ⟨u247, _, rfl⟩ rfl (by decide) (fun z118 h118 => ?_)
        refine xcall 122 [.ref 66, .int _] [] hH ⟨u247, _, rfl⟩ rfl rfl rfl rfl rfl (k_fa hH (fun z119 hp119 h119 hH119 F119 => ⟨_, rfl, ?_⟩))
        exact xretB ⟨u247, _, rfl⟩ rfl (by omega) (fin _ hp119 hH119 (P0_W (W := wFa) (by decide) F119 hP) (bFr_sub F119 (by decide)) (by omega))
    · refine xald 53 ⟨u247, _, rfl⟩ rfl rfl ?_
      refine xald 54 ⟨u247, _, rfl⟩ rfl rfl ?_
      refine xgetR 57 81 hH ⟨u247, _, rfl⟩ rfl rfl ?_
      refine xcst 58 (0) ⟨u247, _, rfl⟩ rfl (by decide) (fun z57 h57 => ?_)
      refine xiald 59 0 hH ⟨u247, _, rfl⟩ rfl (by decide) rfl (by omega) (by omega) (fun z58 h58 => ?_)
      refine xald 60 ⟨u247, _, rfl⟩ rfl rfl ?_
      refine xgetR 63 81 hH ⟨u247, _, rfl⟩ rfl rfl ?_
      refine xcst 64 (1) ⟨u247, _, rfl⟩ rfl (by decide) (fun z63 h63 => ?_)
      refine xiald 65 1 hH ⟨u247, _, rfl⟩ rfl (by decide) rfl (by omega) (by omega) (fun z64 h64 => ?_)
      refine xald 66 ⟨u247, _, rfl⟩ rfl rfl ?_
      refine xgetR 69 81 hH ⟨u247, _, rfl⟩ rfl rfl ?_
      refine xcst 70 (2) ⟨u247, _, rfl⟩ rfl (by decide) (fun z69 h69 => ?_)
      refine xiald 71 2 hH ⟨u247, _, rfl⟩ rfl (by decide) rfl (by omega) (by omega) (fun z70 h70 => ?_)
      refine xcall 74 [.ref 66, .int _, .int _, .int _] [] hH ⟨u247, _, rfl⟩ rfl rfl rfl rfl rfl (k_devs hH hP (by omega) (by omega) (by omega) (by omega) (by omega) (by omega) (by omega) (by omega) (by omega) (fun z71 hp71 hH71 hP71 F71 E71 h71 => ⟨_, rfl, ?_⟩))
      refine xcst 75 (-1) ⟨u247, _, rfl⟩ rfl (by decide) (fun z74 h74 => ?_)
      refine xcmp_ne 78 ⟨u247, _, rfl⟩ rfl (fun c75 => ?_) (fun c75 => ?_)
      · refine xcst 87 (1) ⟨u247, _, rfl⟩ rfl (by decide) (fun z86 h86 => ?_)
        refine xgoto ⟨u247, _, rfl⟩ ?_
        exact xretB ⟨u247, _, rfl⟩ rfl (by omega) (fin _ hp71 hH71 hP71 (bFr_sub F71 (by decide)) (by omega))
      · refine xald 79 ⟨u247, _, rfl⟩ rfl rfl ?_
        refine xcst 80 (3) ⟨u247, _, rfl⟩ rfl (by decide) (fun z79 h79 => ?_)
        refine xcall 83 [.ref 66, .int _] [] hH71 ⟨u247, _, rfl⟩ rfl rfl rfl rfl rfl (k_fa hH71 (fun z80 hp80 h80 hH80 F80 => ⟨_, rfl, ?_⟩))
        refine xif_eq 86 ⟨u247, _, rfl⟩ rfl (fun c83 => ?_) (fun c83 => ?_)
        · refine xcst 91 (0) ⟨u247, _, rfl⟩ rfl (by decide) (fun z90 h90 => ?_)
          exact xretB ⟨u247, _, rfl⟩ rfl (by omega) (fin _ hp80 hH80 (P0_W (W := wFa) (by decide) F80 hP71) ((bFr_sub F71 (by decide)).trans (bFr_sub F80 (by decide))) (by omega))
        · refine xcst 87 (1) ⟨u247, _, rfl⟩ rfl (by decide) (fun z86 h86 => ?_)
          refine xgoto ⟨u247, _, rfl⟩ ?_
          exact xretB ⟨u247, _, rfl⟩ rfl (by omega) (fin _ hp80 hH80 (P0_W (W := wFa) (by decide) F80 hP71) ((bFr_sub F71 (by decide)).trans (bFr_sub F80 (by decide))) (by omega))
  · refine xald 43 ⟨u247, _, rfl⟩ rfl rfl ?_
    refine xcst 44 (1) ⟨u247, _, rfl⟩ rfl (by decide) (fun z43 h43 => ?_)
    refine xcall 47 [.ref 66, .int _] [] hH ⟨u247, _, rfl⟩ rfl rfl rfl rfl rfl (k_fa hH (fun z44 hp44 h44 hH44 F44 => ⟨_, rfl, ?_⟩))
    exact xretB ⟨u247, _, rfl⟩ rfl (by omega) (fin _ hp44 hH44 (P0_W (W := wFa) (by decide) F44 hP) (bFr_sub F44 (by decide)) (by omega))
theorem l247 {d : Nat} {hp0 : amH} {R : xQ} {g : Int32} (hR : ∀ (z : Int32) hp1, bHk 84 bTT hp1 → P0 hp1 → ST hp0 hp1 → (z.toInt = 0 ∨ z.toInt = 1) → R (.inl (some (.int z))) hp1) :
    ∀ (jj : Nat) (k : Int32) (hp : amH), k.toInt + (jj : Int) = 3 → 0 ≤ k.toInt → bHk 84 bTT hp → P0 hp → T3 hp0 hp k.toInt.toNat → xV (d + 5) am_m247 6 [some (.ref 66), some (.int g), some (.int k)] [] hp R := by
  intro jj
  induction jj using Nat.strongRecOn with
  | ind jj ih =>
    intro k hp hjj k0 hH hP hT
    have q1 := hP.1.1
    have q2 := hP.1.2.1
    refine xild 7 ⟨u247, _, rfl⟩ rfl rfl ?_
    refine xcst 8 (3) ⟨u247, _, rfl⟩ rfl (by decide) (fun z7 h7 => ?_)
    refine xcmp_ge 11 ⟨u247, _, rfl⟩ rfl (fun c8 => ?_) (fun c8 => ?_)
    · exact e247 hR hH hP (by rw [show k.toInt.toNat = 3 by omega] at hT; exact hT)
    · refine xald 12 ⟨u247, _, rfl⟩ rfl rfl ?_
      refine xild 13 ⟨u247, _, rfl⟩ rfl rfl ?_
      refine xcst 14 (0) ⟨u247, _, rfl⟩ rfl (by decide) (fun z13 h13 => ?_)
      refine xald 15 ⟨u247, _, rfl⟩ rfl rfl ?_
      refine xcall 18 [.ref 66] [.int _, .int _, .ref 66] hH ⟨u247, _, rfl⟩ rfl rfl rfl rfl rfl (k_points hH (fun z15 h15 => ⟨_, rfl, ?_⟩))
      refine xcst 19 (1) ⟨u247, _, rfl⟩ rfl (by decide) (fun z18 h18 => ?_)
      refine xsub 20 _ ⟨u247, _, rfl⟩ rfl rfl (by omega) (by omega) (fun z19 h19 => ?_)
      refine xcall 23 [.ref 66, .int _, .int _, .int _] [] hH ⟨u247, _, rfl⟩ rfl rfl rfl rfl rfl (k_tp hH hT.2.1 (by omega) (by omega) (fun z20 hp20 hH20 V20 => ⟨_, rfl, ?_⟩))
      refine xif_ne 26 ⟨u247, _, rfl⟩ rfl (fun c23 => ?_) (fun c23 => ?_)
      · refine xinc 31 (1) ⟨u247, _, rfl⟩ rfl rfl rfl (by decide) (by omega) (by omega) (fun z28 h28 => ?_)
        refine xgoto ⟨u247, _, rfl⟩ ?_
        exact ih (jj - 1) (by omega) _ hp20 (by omega) (by omega) hH20 (P0_W (W := wTK) (by decide) V20.1 hP) (by
          have := T3_next hT (z := z20.toInt) (mx := z19.toInt) (by omega) (by omega) (by
            have e := V20
            rw [h13] at e
            exact e)
          rw [show z28.toInt.toNat = k.toInt.toNat + 1 by omega]
          exact this)
      · refine xcst 27 (0) ⟨u247, _, rfl⟩ rfl (by decide) (fun z26 h26 => ?_)
        exact xretB ⟨u247, _, rfl⟩ rfl (by omega) (hR _ hp20 hH20 (P0_W (W := wTK) (by decide) V20.1 hP) ⟨bFr_sub (hT.1.trans V20.1) (by decide), V20.2.1, by have := V20.2.2.1; have := hT.2.2.1; omega⟩ (by omega))
theorem k_rt {d : Nat} {hp : amH} {R : xQ} {g : Int32} (hH : bHk 84 bTT hp) (hP : P0 hp) (hA : PA hp) (hR : ∀ (z : Int32) hp1, bHk 84 bTT hp1 → P0 hp1 → ST hp hp1 → (z.toInt = 0 ∨ z.toInt = 1) → R (.inl (some (.int z))) hp1) : xK (d + 5) 247 [.ref 66, .int g] hp R := by
  refine xin (M := am_m247) rfl rfl rfl ?_
  refine xald 1 ⟨u247, _, rfl⟩ rfl rfl ?_
  refine xcall 4 [.ref 66] [] hH ⟨u247, _, rfl⟩ rfl rfl rfl rfl rfl (k_adv hH hA.2.2.1 (fun hp1 hH1 V1 => ⟨_, rfl, ?_⟩))
  refine xcst 5 (0) ⟨u247, _, rfl⟩ rfl (by decide) (fun z4 h4 => ?_)
  refine xist 6 ⟨u247, _, rfl⟩ rfl rfl ?_
  exact l247 (fun z hp2 g1 g2 g3 g4 => hR z hp2 g1 g2 ⟨(bFr_sub V1.1 (by decide)).trans g3.1, g3.2.1, by have := g3.2.2; have := V1.2.2.1; omega⟩ g4) 3 _ hp1 (by omega) (by omega) hH1 (P0_W (W := wAdv) (by decide) V1.1 hP) (by
    rw [h4]
    exact ⟨bFr.refl _ _, V1.2.1, Int.le_refl _, fun i hi => absurd hi (by rw [show Int.toNat 0 = 0 from rfl]; omega), fun i j hi hj => absurd hj (by rw [show Int.toNat 0 = 0 from rfl]; omega)⟩)
