/-! ===== ways by hand: ranges, refusals ===== -/
theorem P0_W {W : List (Nat × Nat)} (hW : bDj W bPr = true) {hp hp1 : amH} (hF : bFr W hp hp1) (hP : P0 hp) : P0 hp1 := P0_fr hp hp1 (fun c k hc => hF c k (bDj_s hW c k hc)) hP
theorem bFr_up {W W1 : List (Nat × Nat)} {hp hp1 : amH} (h : bFr W hp hp1) (hW : ∀ c k, bIn W c k = true → bIn W1 c k = true) : bFr W1 hp hp1 := fun c k hk => h c k (by
  cases hb : bIn W c k
  · rfl
  · rw [hW c k hb] at hk; cases hk)
theorem u196 : bUp 0 am_m196.1 = true := by decide +kernel
theorem u197 : bUp 0 am_m197.1 = true := by decide +kernel
theorem u254 : bUp 0 am_m254.1 = true := by decide +kernel
theorem u255 : bUp 0 am_m255.1 = true := by decide +kernel
theorem u256 : bUp 0 am_m256.1 = true := by decide +kernel
theorem k_inr {d : Nat} {hp : amH} {R : xQ} {v a b : Int32} (hR : ∀ z : Int32, (z.toInt = 1 ∧ a.toInt ≤ v.toInt ∧ v.toInt ≤ b.toInt) ∨ (z.toInt = 0 ∧ ¬ (a.toInt ≤ v.toInt ∧ v.toInt ≤ b.toInt)) → R (.inl (some (.int z))) hp) : xK d 196 [.int v, .int a, .int b] hp R := by
  refine xin (M := am_m196) rfl rfl rfl ?_
  refine xild 1 ⟨u196, _, rfl⟩ rfl rfl ?_
  refine xild 2 ⟨u196, _, rfl⟩ rfl rfl ?_
  refine xcmp_lt 5 ⟨u196, _, rfl⟩ rfl (fun c2 => ?_) (fun c2 => ?_)
  · refine xcst 15 (0) ⟨u196, _, rfl⟩ rfl (by decide) (fun z14 h14 => ?_)
    exact xretB ⟨u196, _, rfl⟩ rfl (by omega) (hR _ (by omega))
  · refine xild 6 ⟨u196, _, rfl⟩ rfl rfl ?_
    refine xild 7 ⟨u196, _, rfl⟩ rfl rfl ?_
    refine xcmp_gt 10 ⟨u196, _, rfl⟩ rfl (fun c7 => ?_) (fun c7 => ?_)
    · refine xcst 15 (0) ⟨u196, _, rfl⟩ rfl (by decide) (fun z14 h14 => ?_)
      exact xretB ⟨u196, _, rfl⟩ rfl (by omega) (hR _ (by omega))
    · refine xcst 11 (1) ⟨u196, _, rfl⟩ rfl (by decide) (fun z10 h10 => ?_)
      refine xgoto ⟨u196, _, rfl⟩ ?_
      exact xretB ⟨u196, _, rfl⟩ rfl (by omega) (hR _ (by omega))
theorem k_fails {d : Nat} {hp : amH} {R : xQ} {v e : Int32} (hH : bHk 84 bTT hp) (hv : v.toInt = 0 ∨ v.toInt = 1) (hR : ∀ hp1, bHk 84 bTT hp1 → bFr [(66, 7)] hp hp1 → R (.inl (some (.int v))) hp1) : xK d 197 [.ref 66, .int v, .int e] hp R := by
  have b1 := aMin e
  have b2 := aMax e
  refine xin (M := am_m197) rfl rfl rfl ?_
  refine xild 1 ⟨u197, _, rfl⟩ rfl rfl ?_
  refine xif_eq 4 ⟨u197, _, rfl⟩ rfl (fun c1 => ?_) (fun c1 => ?_)
  · refine xild 10 ⟨u197, _, rfl⟩ rfl rfl ?_
    exact xretB ⟨u197, _, rfl⟩ rfl hv (hR _ hH (bFr.refl _ _))
  · refine xald 5 ⟨u197, _, rfl⟩ rfl rfl ?_
    refine xild 6 ⟨u197, _, rfl⟩ rfl rfl ?_
    refine xputI 9 hH ⟨u197, _, rfl⟩ rfl rfl ⟨rfl, rfl⟩ (by omega) (by omega) (fun hp6 hH6 U6 => ?_)
    refine xild 10 ⟨u197, _, rfl⟩ rfl rfl ?_
    exact xretB ⟨u197, _, rfl⟩ rfl hv (hR _ hH6 (rU_fr U6 rfl))
theorem k_nopt {d : Nat} {hp : amH} {R : xQ} {p : Int32} (hH : bHk 84 bTT hp) (hP : P0 hp) (hR : ∀ (z : Int32) hp1, bHk 84 bTT hp1 → P0 hp1 → bFr [(66, 7)] hp hp1 → (z.toInt = 1 ∨ (z.toInt = 0 ∧ 0 ≤ p.toInt ∧ p.toInt < rN hp 67 0)) → R (.inl (some (.int z))) hp1) : xK (d + 1) 254 [.ref 66, .int p] hp R := by
  refine xin (M := am_m254) rfl rfl rfl ?_
  refine xald 1 ⟨u254, _, rfl⟩ rfl rfl ?_
  refine xcst 2 (0) ⟨u254, _, rfl⟩ rfl (by decide) (fun z1 h1 => ?_)
  refine xputI 5 hH ⟨u254, _, rfl⟩ rfl rfl ⟨rfl, rfl⟩ (by omega) (by omega) (fun hp2 hH2 U2 => ?_)
  have hP2 := P0_W (W := [(66, 7)]) (by decide) (rU_fr U2 rfl) hP
  have e0 : rN hp2 67 0 = rN hp 67 0 := rU_ne U2 (by omega)
  have q1 := hP2.1.1
  have q2 := hP2.1.2.1
  refine xald 6 ⟨u254, _, rfl⟩ rfl rfl ?_
  refine xild 7 ⟨u254, _, rfl⟩ rfl rfl ?_
  refine xcst 8 (0) ⟨u254, _, rfl⟩ rfl (by decide) (fun z7 h7 => ?_)
  refine xald 9 ⟨u254, _, rfl⟩ rfl rfl ?_
  refine xcall 12 [.ref 66] [.int _, .int _, .ref 66] hH2 ⟨u254, _, rfl⟩ rfl rfl rfl rfl rfl (k_points hH2 (fun z9 h9 => ⟨_, rfl, ?_⟩))
  refine xcst 13 (1) ⟨u254, _, rfl⟩ rfl (by decide) (fun z12 h12 => ?_)
  refine xsub 14 _ ⟨u254, _, rfl⟩ rfl rfl (by omega) (by omega) (fun z13 h13 => ?_)
  refine xcallS 17 [.int _, .int _, .int _] [.ref 66] hH2 ⟨u254, _, rfl⟩ rfl rfl rfl rfl rfl (k_inr (fun z14 h14 => ⟨_, rfl, ?_⟩))
  refine xif_ne 20 ⟨u254, _, rfl⟩ rfl (fun c17 => ?_) (fun c17 => ?_)
  · refine xcst 25 (0) ⟨u254, _, rfl⟩ rfl (by decide) (fun z24 h24 => ?_)
    refine xcst 26 (1) ⟨u254, _, rfl⟩ rfl (by decide) (fun z25 h25 => ?_)
    refine xcall 29 [.ref 66, .int _, .int _] [] hH2 ⟨u254, _, rfl⟩ rfl rfl rfl rfl rfl (k_fails hH2 (by omega) (fun hp3 hH3 F3 => ⟨_, rfl, ?_⟩))
    exact xretB ⟨u254, _, rfl⟩ rfl (by omega) (hR _ _ hH3 (P0_W (by decide) F3 hP2) ((rU_fr U2 rfl).trans F3) (Or.inr (by omega)))
  · refine xcst 21 (1) ⟨u254, _, rfl⟩ rfl (by decide) (fun z20 h20 => ?_)
    refine xgoto ⟨u254, _, rfl⟩ ?_
    refine xcst 26 (1) ⟨u254, _, rfl⟩ rfl (by decide) (fun z25 h25 => ?_)
    refine xcall 29 [.ref 66, .int _, .int _] [] hH2 ⟨u254, _, rfl⟩ rfl rfl rfl rfl rfl (k_fails hH2 (by omega) (fun hp3 hH3 F3 => ⟨_, rfl, ?_⟩))
    exact xretB ⟨u254, _, rfl⟩ rfl (by omega) (hR _ _ hH3 (P0_W (by decide) F3 hP2) ((rU_fr U2 rfl).trans F3) (Or.inl h20))
theorem e_pt {hp hp1 : amH} (h : bFr [(66, 7)] hp hp1) (i : Nat) : rN hp1 67 i = rN hp 67 i := r_fr h rfl
theorem k_noset {d : Nat} {hp : amH} {R : xQ} {a b c : Int32} (hH : bHk 84 bTT hp) (hP : P0 hp) (hR : ∀ (z : Int32) hp1, bHk 84 bTT hp1 → P0 hp1 → bFr [(66, 7)] hp hp1 → (z.toInt = 1 ∨ (z.toInt = 0 ∧ 0 ≤ a.toInt ∧ a.toInt < rN hp 67 0 ∧ 0 ≤ b.toInt ∧ b.toInt < rN hp 67 0 ∧ 0 ≤ c.toInt ∧ c.toInt < rN hp 67 0 ∧ ¬ a.toInt = b.toInt ∧ ¬ b.toInt = c.toInt ∧ ¬ a.toInt = c.toInt)) → R (.inl (some (.int z))) hp1) : xK (d + 2) 256 [.ref 66, .int a, .int b, .int c] hp R := by
  refine xin (M := am_m256) rfl rfl rfl ?_
  have j52 : ∀ hp1, bHk 84 bTT hp1 → P0 hp1 → bFr [(66, 7)] hp hp1 → xV (d + 2) am_m256 52 [some (.ref 66), some (.int a), some (.int b), some (.int c)] [] hp1 R := by
    intro hp1 hH1 hP1 hF1
    refine xcst 53 (1) ⟨u256, _, rfl⟩ rfl (by decide) (fun z34 h34 => ?_)
    refine xgoto ⟨u256, _, rfl⟩ ?_
    exact xretB ⟨u256, _, rfl⟩ rfl (by omega) (hR _ _ hH1 hP1 hF1 (Or.inl h34))
  have j40 : ∀ hp1, bHk 84 bTT hp1 → P0 hp1 → bFr [(66, 7)] hp hp1 → xV (d + 2) am_m256 40 [some (.ref 66), some (.int a), some (.int b), some (.int c)] [.ref 66] hp1 R := by
    intro hp1 hH1 hP1 hF1
    refine xcst 41 (1) ⟨u256, _, rfl⟩ rfl (by decide) (fun z40 h40 => ?_)
    refine xgoto ⟨u256, _, rfl⟩ ?_
    refine xcst 46 (2) ⟨u256, _, rfl⟩ rfl (by decide) (fun z45 h45 => ?_)
    refine xcall 49 [.ref 66, .int _, .int _] [] hH1 ⟨u256, _, rfl⟩ rfl rfl rfl rfl rfl (k_fails hH1 (by omega) (fun hp4 hH4 F4 => ⟨_, rfl, ?_⟩))
    refine xif_eq 52 ⟨u256, _, rfl⟩ rfl (fun c31 => absurd c31 (by omega)) (fun c31 => ?_)
    exact j52 _ hH4 (P0_W (by decide) F4 hP1) (hF1.trans F4)
  refine xald 1 ⟨u256, _, rfl⟩ rfl rfl ?_
  refine xild 2 ⟨u256, _, rfl⟩ rfl rfl ?_
  refine xcall 5 [.ref 66, .int _] [] hH ⟨u256, _, rfl⟩ rfl rfl rfl rfl rfl (k_nopt hH hP (fun z2 hp2 hH2 hP2 F2 h2 => ⟨_, rfl, ?_⟩))
  refine xif_ne 8 ⟨u256, _, rfl⟩ rfl (fun c5 => j52 _ hH2 hP2 F2) (fun c5 => ?_)
  refine xald 9 ⟨u256, _, rfl⟩ rfl rfl ?_
  refine xild 10 ⟨u256, _, rfl⟩ rfl rfl ?_
  refine xcall 13 [.ref 66, .int _] [] hH2 ⟨u256, _, rfl⟩ rfl rfl rfl rfl rfl (k_nopt hH2 hP2 (fun z3 hp3 hH3 hP3 F3 h3 => ⟨_, rfl, ?_⟩))
  rw [e_pt F2] at h3
  have F3 := F2.trans F3
  refine xif_ne 16 ⟨u256, _, rfl⟩ rfl (fun c13 => j52 _ hH3 hP3 F3) (fun c13 => ?_)
  refine xald 17 ⟨u256, _, rfl⟩ rfl rfl ?_
  refine xild 18 ⟨u256, _, rfl⟩ rfl rfl ?_
  refine xcall 21 [.ref 66, .int _] [] hH3 ⟨u256, _, rfl⟩ rfl rfl rfl rfl rfl (k_nopt hH3 hP3 (fun z4 hp4 hH4 hP4 F4 h4 => ⟨_, rfl, ?_⟩))
  rw [e_pt F3] at h4
  have F4 := F3.trans F4
  refine xif_ne 24 ⟨u256, _, rfl⟩ rfl (fun c21 => j52 _ hH4 hP4 F4) (fun c21 => ?_)
  refine xald 25 ⟨u256, _, rfl⟩ rfl rfl ?_
  refine xild 26 ⟨u256, _, rfl⟩ rfl rfl ?_
  refine xild 27 ⟨u256, _, rfl⟩ rfl rfl ?_
  refine xcmp_eq 30 ⟨u256, _, rfl⟩ rfl (fun c27 => j40 _ hH4 hP4 F4) (fun c27 => ?_)
  refine xild 31 ⟨u256, _, rfl⟩ rfl rfl ?_
  refine xild 32 ⟨u256, _, rfl⟩ rfl rfl ?_
  refine xcmp_eq 35 ⟨u256, _, rfl⟩ rfl (fun c32 => j40 _ hH4 hP4 F4) (fun c32 => ?_)
  refine xild 36 ⟨u256, _, rfl⟩ rfl rfl ?_
  refine xild 37 ⟨u256, _, rfl⟩ rfl rfl ?_
  refine xcmp_ne 40 ⟨u256, _, rfl⟩ rfl (fun c37 => ?_) (fun c37 => j40 _ hH4 hP4 F4)
  refine xcst 45 (0) ⟨u256, _, rfl⟩ rfl (by decide) (fun z44 h44 => ?_)
  refine xcst 46 (2) ⟨u256, _, rfl⟩ rfl (by decide) (fun z45 h45 => ?_)
  refine xcall 49 [.ref 66, .int _, .int _] [] hH4 ⟨u256, _, rfl⟩ rfl rfl rfl rfl rfl (k_fails hH4 (by omega) (fun hp5 hH5 F5 => ⟨_, rfl, ?_⟩))
  refine xif_eq 52 ⟨u256, _, rfl⟩ rfl (fun c49 => ?_) (fun c49 => absurd h44 c49)
  refine xcst 57 (0) ⟨u256, _, rfl⟩ rfl (by decide) (fun z56 h56 => ?_)
  exact xretB ⟨u256, _, rfl⟩ rfl (by omega) (hR _ _ hH5 (P0_W (by decide) F5 hP4) (F4.trans F5) (Or.inr (by omega)))
