/-! ##### 19.m.042.32b ##### -/
section
/-! ===== what calls require, on both sides ===== -/
section XT
variable {M : amM} {pc a b d : Nat} {L : List (Option Value)} {st : List Value} {hp : amH} {Q : xQ}
theorem xthr {E : Nat} {i : _} (h : xI M pc (.new i) E b) (hb : ¬ b = 0) (hm : M.2.2.2.2.2.1 = []) (hs : (st.map fun v => v.category).sum ≤ 8) (hQ : Q (.inr E) hp) : xV d M pc L st hp Q := by
  intro cl hl
  obtain ⟨hu, r, hr2⟩ := h
  rw [hr2]
  refine bWp_thr (q := (pc, .new i, E, b)) ?_ hQ
  simp only [amDo]
  rw [if_neg hb, if_pos ⟨hs, hm⟩]
theorem xcallT (q : Nat) {k o t n : Nat} {ys : List bY} {j : _} {N : amM} (av rest : List Value) {st : List Value} (hH : bHk 84 bTT hp) (h : xI M pc (.invokevirtual j) k 0) (e : q = pc + 3) (hst : st = (Value.ref o :: av).reverse ++ rest) (ho : o < 84) (hT : bTT o = some (t, n, ys)) (h32 : t < 32) (hN : amGG k = some N)
    (hc : N.2.2.1 = av.length + 1 ∧ N.2.2.2.2.2.2 = t ∧ Nat.ble (((Value.ref o :: av).reverse.map fun v => v.category).sum) N.2.1 = true ∧ Nat.ble ((rest.map fun v => v.category).sum) 8 = true) (hr : amOkS 84 rest = true)
    (hk : xK d k (.ref o :: av) hp (fun y hp1 => (∃ v, y = .inl v ∧ xV (d + 1) M q L (v.toList ++ rest) hp1 Q) ∨ (∃ E, y = .inr E ∧ M.2.2.2.2.2.1 = [] ∧ Q (.inr E) hp1))) : xV (d + 1) M pc L st hp Q := by
  intro cl hl
  obtain ⟨hu, r, hr2⟩ := h
  obtain ⟨N', hN', hw⟩ := hk
  rw [hN] at hN'
  cases hN'
  rw [hr2]
  obtain ⟨c1, c2, c3, c4⟩ := hc
  have c3 := Nat.le_of_ble_eq_true c3
  have c4 := Nat.le_of_ble_eq_true c4
  have hlen : (Value.ref o :: av).reverse.length = N.2.2.1 := by rw [List.length_reverse, c1]; rfl
  have t1 : st.take N.2.2.1 = (Value.ref o :: av).reverse := by rw [hst, ← hlen, List.take_left]
  have t2 : st.drop N.2.2.1 = rest := by rw [hst, ← hlen, List.drop_left]
  have hrec : amRecv 0 N.2.2.2.2.2.2 hp (.ref o :: av) = true := by
    obtain ⟨⟨t3, vs⟩, g1, g2, -, -⟩ := bHk_at hH ho hT
    have g2 : t3 = t := g2
    subst g2
    unfold amRecv
    dsimp only
    rw [if_pos rfl, g1, c2]
    exact decide_eq_true ⟨rfl, h32⟩
  have hcall : amCall amGG 0 k cl st hp = some (.inr (.inr (.inr (k, .ref o :: av, rest)))) := by
    unfold amCall
    rw [hN]
    dsimp only
    rw [t1, t2, List.reverse_reverse, if_pos]
    refine ⟨by rw [hst, List.length_append]; omega, c3, ?_, c4⟩
    rw [hH.1, hl.1, hr, hrec]
    rfl
  have hdo : amDo amGG M none (.invokevirtual j) k 0 pc cl st hp = some (.inr (.inr (.inr (k, .ref o :: av, rest)))) := by
    simp only [amDo]
    rw [if_neg (by decide), if_neg (by decide)]
    exact hcall
  refine bWp_call (q := (pc, .invokevirtual j, k, 0)) hdo hN (bWp_mono hw (fun y hp1 hy => ?_))
  rcases hy with ⟨v, rfl, hy⟩ | ⟨E, rfl, h1, h2⟩
  · dsimp only
    rw [bUp_next hu (xI_suf hr2), ← e]
    exact hy cl hl
  · exact ⟨rfl, h1, h2⟩
end XT
noncomputable def gPt (V : Nat) (a : Int) : Int := if 0 ≤ a ∧ a < (V : Int) then 0 else 1
noncomputable def gTwo (V : Nat) (a b : Int) : Int := if 0 ≤ a ∧ a < (V : Int) ∧ 0 ≤ b ∧ b < (V : Int) then (if a = b then 2 else 0) else 1
noncomputable def gSet (V : Nat) (a b c : Int) : Int := if 0 ≤ a ∧ a < (V : Int) ∧ 0 ≤ b ∧ b < (V : Int) ∧ 0 ≤ c ∧ c < (V : Int) then (if a = b ∨ b = c ∨ a = c then 2 else 0) else 1
noncomputable def gTri (n : Nat) (t : Int) : Int := if 0 ≤ t ∧ t < (n : Int) then 0 else 1
theorem gPt_0 {V : Nat} {a : Int} : gPt V a = 0 ↔ 0 ≤ a ∧ a < (V : Int) := by
  unfold gPt
  split <;> omega
theorem gTwo_0 {V : Nat} {a b : Int} : gTwo V a b = 0 ↔ 0 ≤ a ∧ a < (V : Int) ∧ 0 ≤ b ∧ b < (V : Int) ∧ ¬ a = b := by
  unfold gTwo
  split
  · split <;> omega
  · omega
theorem gSet_0 {V : Nat} {a b c : Int} : gSet V a b c = 0 ↔ 0 ≤ a ∧ a < (V : Int) ∧ 0 ≤ b ∧ b < (V : Int) ∧ 0 ≤ c ∧ c < (V : Int) ∧ ¬ a = b ∧ ¬ b = c ∧ ¬ a = c := by
  unfold gSet
  split
  · split <;> omega
  · omega
theorem gTri_0 {n : Nat} {t : Int} : gTri n t = 0 ↔ 0 ≤ t ∧ t < (n : Int) := by
  unfold gTri
  split <;> omega
theorem u176 : bUp 0 am_m176.1 = true := by decide +kernel
theorem u177 : bUp 0 am_m177.1 = true := by decide +kernel
theorem u178 : bUp 0 am_m178.1 = true := by decide +kernel
theorem u179 : bUp 0 am_m179.1 = true := by decide +kernel
theorem k_rq1 {d V : Nat} {hp : amH} {R : xQ} {a : Int32} (hH : bHk 84 bTT hp) (hV : rN hp 3 0 = (V : Int)) (h0 : gPt V a.toInt = 0 → R (.inl none) hp) (h1 : gPt V a.toInt = 1 → R (.inr 1) hp) : xK (d + 1) 176 [.ref 0, .int a] hp R := by
  refine xin (M := am_m176) rfl rfl rfl ?_
  refine xald 1 ⟨u176, _, rfl⟩ rfl rfl ?_
  refine xgetD 4 (3) hH ⟨u176, _, rfl⟩ rfl (by decide) (by decide) rfl rfl (by decide) ?_
  refine xild 5 ⟨u176, _, rfl⟩ rfl rfl ?_
  refine xcallC 8 (o := 3) [.int _] [] hH ⟨u176, _, rfl⟩ rfl rfl (by decide) rfl (by decide) rfl ⟨rfl, rfl, rfl, rfl⟩ rfl (k_isp (o := 3) (Or.inl rfl) hH (fun z5 h5 => ⟨_, rfl, ?_⟩))
  refine xif_ne 11 ⟨u176, _, rfl⟩ rfl (fun c8 => ?_) (fun c8 => ?_)
  · exact xretV ⟨u176, _, rfl⟩ rfl (h0 (gPt_0.mpr (by omega)))
  · exact xthr ⟨u176, _, rfl⟩ (by decide) rfl (by decide) (h1 (by unfold gPt; rw [if_neg (by omega)]))
theorem k_rq2 {d V : Nat} {hp : amH} {R : xQ} {a b : Int32} (hH : bHk 84 bTT hp) (hV : rN hp 3 0 = (V : Int)) (h0 : gTwo V a.toInt b.toInt = 0 → R (.inl none) hp) (h1 : gTwo V a.toInt b.toInt = 1 → R (.inr 1) hp) (h2 : gTwo V a.toInt b.toInt = 2 → R (.inr 0) hp) : xK (d + 2) 177 [.ref 0, .int a, .int b] hp R := by
  refine xin (M := am_m177) rfl rfl rfl ?_
  refine xald 1 ⟨u177, _, rfl⟩ rfl rfl ?_
  refine xild 2 ⟨u177, _, rfl⟩ rfl rfl ?_
  refine xcallT 5 (o := 0) [.int _] [] hH ⟨u177, _, rfl⟩ rfl rfl (by decide) rfl (by decide) rfl ⟨rfl, rfl, rfl, rfl⟩ rfl (k_rq1 hH hV (fun g2 => Or.inl ⟨_, rfl, ?_⟩) (fun g2 => Or.inr ⟨_, rfl, rfl, h1 (by unfold gTwo; rw [if_neg (fun z => by have := gPt_0.mpr ⟨z.1, z.2.1⟩; omega)])⟩))
  have k2 := gPt_0.mp g2
  refine xald 6 ⟨u177, _, rfl⟩ rfl rfl ?_
  refine xild 7 ⟨u177, _, rfl⟩ rfl rfl ?_
  refine xcallT 10 (o := 0) [.int _] [] hH ⟨u177, _, rfl⟩ rfl rfl (by decide) rfl (by decide) rfl ⟨rfl, rfl, rfl, rfl⟩ rfl (k_rq1 hH hV (fun g7 => Or.inl ⟨_, rfl, ?_⟩) (fun g7 => Or.inr ⟨_, rfl, rfl, h1 (by unfold gTwo; rw [if_neg (fun z => by have := gPt_0.mpr ⟨z.2.2.1, z.2.2.2⟩; omega)])⟩))
  have k7 := gPt_0.mp g7
  refine xild 11 ⟨u177, _, rfl⟩ rfl rfl ?_
  refine xild 12 ⟨u177, _, rfl⟩ rfl rfl ?_
  refine xcmp_ne 15 ⟨u177, _, rfl⟩ rfl (fun c12 => ?_) (fun c12 => ?_)
  · exact xretV ⟨u177, _, rfl⟩ rfl (h0 (gTwo_0.mpr (by omega)))
  · exact xthr ⟨u177, _, rfl⟩ (by decide) rfl (by decide) (h2 (by unfold gTwo; rw [if_pos (by omega), if_pos (by omega)]))
theorem k_rq3 {d V : Nat} {hp : amH} {R : xQ} {a b c : Int32} (hH : bHk 84 bTT hp) (hV : rN hp 3 0 = (V : Int)) (h0 : gSet V a.toInt b.toInt c.toInt = 0 → R (.inl none) hp) (h1 : gSet V a.toInt b.toInt c.toInt = 1 → R (.inr 1) hp) (h2 : gSet V a.toInt b.toInt c.toInt = 2 → R (.inr 0) hp) : xK (d + 2) 178 [.ref 0, .int a, .int b, .int c] hp R := by
  refine xin (M := am_m178) rfl rfl rfl ?_
  refine xald 1 ⟨u178, _, rfl⟩ rfl rfl ?_
  refine xild 2 ⟨u178, _, rfl⟩ rfl rfl ?_
  refine xcallT 5 (o := 0) [.int _] [] hH ⟨u178, _, rfl⟩ rfl rfl (by decide) rfl (by decide) rfl ⟨rfl, rfl, rfl, rfl⟩ rfl (k_rq1 hH hV (fun g2 => Or.inl ⟨_, rfl, ?_⟩) (fun g2 => Or.inr ⟨_, rfl, rfl, h1 (by unfold gSet; rw [if_neg (fun z => by have := gPt_0.mpr ⟨z.1, z.2.1⟩; omega)])⟩))
  have k2 := gPt_0.mp g2
  refine xald 6 ⟨u178, _, rfl⟩ rfl rfl ?_
  refine xild 7 ⟨u178, _, rfl⟩ rfl rfl ?_
  refine xcallT 10 (o := 0) [.int _] [] hH ⟨u178, _, rfl⟩ rfl rfl (by decide) rfl (by decide) rfl ⟨rfl, rfl, rfl, rfl⟩ rfl (k_rq1 hH hV (fun g7 => Or.inl ⟨_, rfl, ?_⟩) (fun g7 => Or.inr ⟨_, rfl, rfl, h1 (by unfold gSet; rw [if_neg (fun z => by have := gPt_0.mpr ⟨z.2.2.1, z.2.2.2.1⟩; omega)])⟩))
  have k7 := gPt_0.mp g7
  refine xald 11 ⟨u178, _, rfl⟩ rfl rfl ?_
  refine xild 12 ⟨u178, _, rfl⟩ rfl rfl ?_
  refine xcallT 15 (o := 0) [.int _] [] hH ⟨u178, _, rfl⟩ rfl rfl (by decide) rfl (by decide) rfl ⟨rfl, rfl, rfl, rfl⟩ rfl (k_rq1 hH hV (fun g12 => Or.inl ⟨_, rfl, ?_⟩) (fun g12 => Or.inr ⟨_, rfl, rfl, h1 (by unfold gSet; rw [if_neg (fun z => by have := gPt_0.mpr ⟨z.2.2.2.2.1, z.2.2.2.2.2⟩; omega)])⟩))
  have k12 := gPt_0.mp g12
  refine xild 16 ⟨u178, _, rfl⟩ rfl rfl ?_
  refine xild 17 ⟨u178, _, rfl⟩ rfl rfl ?_
  refine xcmp_eq 20 ⟨u178, _, rfl⟩ rfl (fun c17 => ?_) (fun c17 => ?_)
  · exact xthr ⟨u178, _, rfl⟩ (by decide) rfl (by decide) (h2 (by unfold gSet; rw [if_pos (by omega), if_pos (by omega)]))
  · refine xild 21 ⟨u178, _, rfl⟩ rfl rfl ?_
    refine xild 22 ⟨u178, _, rfl⟩ rfl rfl ?_
    refine xcmp_eq 25 ⟨u178, _, rfl⟩ rfl (fun c22 => ?_) (fun c22 => ?_)
    · exact xthr ⟨u178, _, rfl⟩ (by decide) rfl (by decide) (h2 (by unfold gSet; rw [if_pos (by omega), if_pos (by omega)]))
    · refine xild 26 ⟨u178, _, rfl⟩ rfl rfl ?_
      refine xild 27 ⟨u178, _, rfl⟩ rfl rfl ?_
      refine xcmp_ne 30 ⟨u178, _, rfl⟩ rfl (fun c27 => ?_) (fun c27 => ?_)
      · exact xretV ⟨u178, _, rfl⟩ rfl (h0 (gSet_0.mpr (by omega)))
      · exact xthr ⟨u178, _, rfl⟩ (by decide) rfl (by decide) (h2 (by unfold gSet; rw [if_pos (by omega), if_pos (by omega)]))
theorem k_rqt {d n : Nat} {hp : amH} {R : xQ} {t : Int32} (hH : bHk 84 bTT hp) (hn : rN hp 3 1 = (n : Int)) (h0 : gTri n t.toInt = 0 → R (.inl none) hp) (h1 : gTri n t.toInt = 1 → R (.inr 1) hp) : xK d 179 [.ref 0, .int t] hp R := by
  refine xin (M := am_m179) rfl rfl rfl ?_
  refine xild 1 ⟨u179, _, rfl⟩ rfl rfl ?_
  refine xif_lt 4 ⟨u179, _, rfl⟩ rfl (fun c1 => ?_) (fun c1 => ?_)
  · exact xthr ⟨u179, _, rfl⟩ (by decide) rfl (by decide) (h1 (by unfold gTri; rw [if_neg (by omega)]))
  · refine xild 5 ⟨u179, _, rfl⟩ rfl rfl ?_
    refine xald 6 ⟨u179, _, rfl⟩ rfl rfl ?_
    refine xgetD 9 (3) hH ⟨u179, _, rfl⟩ rfl (by decide) (by decide) rfl rfl (by decide) ?_
    refine xgetC 12 hH ⟨u179, _, rfl⟩ rfl (by decide) (by decide) rfl rfl (by decide) (fun z9 h9 => ?_)
    refine xcmp_lt 15 ⟨u179, _, rfl⟩ rfl (fun c12 => ?_) (fun c12 => ?_)
    · exact xretV ⟨u179, _, rfl⟩ rfl (h0 (gTri_0.mpr (by omega)))
    · exact xthr ⟨u179, _, rfl⟩ (by decide) rfl (by decide) (h1 (by unfold gTri; rw [if_neg (by omega)]))
theorem k_gp1 {d V : Nat} {hp : amH} {R : xQ} {p : Int32} (hH : bHk 84 bTT hp) (hV : rN hp 67 0 = (V : Int)) (h15 : V ≤ 15)
    (hR : ∀ (z : Int32) hp1, bHk 84 bTT hp1 → bFr [(66, 7)] hp hp1 → rN hp1 66 7 = gPt V p.toInt → ((gPt V p.toInt = 0 ∧ z.toInt = 0) ∨ (gPt V p.toInt = 1 ∧ z.toInt = 1)) → R (.inl (some (.int z))) hp1) : xK (d + 1) 254 [.ref 66, .int p] hp R := by
  refine xin (M := am_m254) rfl rfl rfl ?_
  refine xald 1 ⟨u254, _, rfl⟩ rfl rfl ?_
  refine xcst 2 (0) ⟨u254, _, rfl⟩ rfl (by decide) (fun z1 h1 => ?_)
  refine xputI 5 hH ⟨u254, _, rfl⟩ rfl rfl ⟨rfl, rfl⟩ (by omega) (by omega) (fun hp2 hH2 U2 => ?_)
  have s2 := U2.1
  have n2_67_0 : rN hp2 (67) 0 = rN hp (67) 0 := rU_ne U2 (by first | decide | exact (fun z => absurd z.1 (by decide)) | omega)
  refine xald 6 ⟨u254, _, rfl⟩ rfl rfl ?_
  refine xild 7 ⟨u254, _, rfl⟩ rfl rfl ?_
  refine xcst 8 (0) ⟨u254, _, rfl⟩ rfl (by decide) (fun z7 h7 => ?_)
  refine xald 9 ⟨u254, _, rfl⟩ rfl rfl ?_
  refine xcall 12 [.ref 66] [.int _, .int _, .ref 66] hH2 ⟨u254, _, rfl⟩ rfl rfl rfl rfl rfl (k_points hH2 (fun z9 h9 => ⟨_, rfl, ?_⟩))
  refine xcst 13 (1) ⟨u254, _, rfl⟩ rfl (by decide) (fun z12 h12 => ?_)
  refine xsub 14 _ ⟨u254, _, rfl⟩ rfl rfl (by omega) (by omega) (fun z13 h13 => ?_)
  refine xcallS 17 [.int _, .int _, .int _] [.ref 66] hH2 ⟨u254, _, rfl⟩ rfl rfl rfl rfl rfl (k_inr (fun z14 h14 => ⟨_, rfl, ?_⟩))
  refine xif_ne 20 ⟨u254, _, rfl⟩ rfl (fun c17 => ?_) (fun c17 => ?_)
  · refine xcst 25 (0) ⟨u254, _, rfl⟩ rfl (by decide) (fun z24 h24 => ?_)
    refine xcst 26 (1) ⟨u254, _, rfl⟩ rfl (by decide) (fun z25 h25 => ?_)
    refine xcall 29 [.ref 66, .int _, .int _] [] hH2 ⟨u254, _, rfl⟩ rfl rfl rfl rfl rfl (k_failsE hH2 (by omega) (fun hp26 hH26 V26 => ⟨_, rfl, ?_⟩))
    rcases V26 with ⟨a, e⟩ | ⟨a, U⟩
    · first
      | omega
      | (subst e
         have g : gPt V p.toInt = 0 := gPt_0.mpr (by omega)
         exact xretB ⟨u254, _, rfl⟩ rfl (by omega) (hR _ _ hH26 (rU_fr U2 rfl) (by rw [g, U2.1]; exact h1) (Or.inl ⟨g, a⟩)))
    · first
      | omega
      | (have g : gPt V p.toInt = 1 := by unfold gPt; rw [if_neg (by omega)]
         exact xretB ⟨u254, _, rfl⟩ rfl (by omega) (hR _ _ hH26 ((rU_fr U2 rfl).trans (rU_fr U rfl)) (by rw [g, U.1]; exact h25) (Or.inr ⟨g, a⟩)))
  · refine xcst 21 (1) ⟨u254, _, rfl⟩ rfl (by decide) (fun z20 h20 => ?_)
    refine xgoto ⟨u254, _, rfl⟩ ?_
    refine xcst 26 (1) ⟨u254, _, rfl⟩ rfl (by decide) (fun z25 h25 => ?_)
    refine xcall 29 [.ref 66, .int _, .int _] [] hH2 ⟨u254, _, rfl⟩ rfl rfl rfl rfl rfl (k_failsE hH2 (by omega) (fun hp26 hH26 V26 => ⟨_, rfl, ?_⟩))
    rcases V26 with ⟨a, e⟩ | ⟨a, U⟩
    · first
      | omega
      | (subst e
         have g : gPt V p.toInt = 0 := gPt_0.mpr (by omega)
         exact xretB ⟨u254, _, rfl⟩ rfl (by omega) (hR _ _ hH26 (rU_fr U2 rfl) (by rw [g, U2.1]; exact h1) (Or.inl ⟨g, a⟩)))
    · first
      | omega
      | (have g : gPt V p.toInt = 1 := by unfold gPt; rw [if_neg (by omega)]
         exact xretB ⟨u254, _, rfl⟩ rfl (by omega) (hR _ _ hH26 ((rU_fr U2 rfl).trans (rU_fr U rfl)) (by rw [g, U.1]; exact h25) (Or.inr ⟨g, a⟩)))
theorem k_gp2 {d V : Nat} {hp : amH} {R : xQ} {a b : Int32} (hH : bHk 84 bTT hp) (hV : rN hp 67 0 = (V : Int)) (h15 : V ≤ 15)
    (hR : ∀ (z : Int32) hp1, bHk 84 bTT hp1 → bFr [(66, 7)] hp hp1 → rN hp1 66 7 = gTwo V a.toInt b.toInt → ((gTwo V a.toInt b.toInt = 0 ∧ z.toInt = 0) ∨ (¬ gTwo V a.toInt b.toInt = 0 ∧ z.toInt = 1)) → R (.inl (some (.int z))) hp1) : xK (d + 2) 255 [.ref 66, .int a, .int b] hp R := by
  refine xin (M := am_m255) rfl rfl rfl ?_
  refine xald 1 ⟨u255, _, rfl⟩ rfl rfl ?_
  refine xild 2 ⟨u255, _, rfl⟩ rfl rfl ?_
  refine xcall 5 [.ref 66, .int _] [] hH ⟨u255, _, rfl⟩ rfl rfl rfl rfl rfl (k_gp1 hH (V := V) hV h15 (fun z2 hp2 hH2 f2 t2 o2 => ⟨_, rfl, ?_⟩))
  have F2 : bFr [(66, 7)] hp hp2 := f2
  refine xif_ne 8 ⟨u255, _, rfl⟩ rfl (fun c5 => ?_) (fun c5 => ?_)
  · refine xcst 35 (1) ⟨u255, _, rfl⟩ rfl (by decide) (fun z34 h34 => ?_)
    refine xgoto ⟨u255, _, rfl⟩ ?_
    have g : gTwo V a.toInt b.toInt = 1 := by unfold gTwo; rw [if_neg (fun z => by have : gPt V a.toInt = 0 := gPt_0.mpr ⟨z.1, z.2.1⟩; omega)]
    exact xretB ⟨u255, _, rfl⟩ rfl (by omega) (hR _ _ hH2 F2 (by rw [g]; omega) (Or.inr ⟨by omega, by omega⟩))
  · refine xald 9 ⟨u255, _, rfl⟩ rfl rfl ?_
    refine xild 10 ⟨u255, _, rfl⟩ rfl rfl ?_
    refine xcall 13 [.ref 66, .int _] [] hH2 ⟨u255, _, rfl⟩ rfl rfl rfl rfl rfl (k_gp1 hH2 (V := V) (by rw [r_fr F2 rfl]; exact hV) h15 (fun z10 hp10 hH10 f10 t10 o10 => ⟨_, rfl, ?_⟩))
    have F10 : bFr [(66, 7)] hp hp10 := F2.trans f10
    refine xif_ne 16 ⟨u255, _, rfl⟩ rfl (fun c13 => ?_) (fun c13 => ?_)
    · refine xcst 35 (1) ⟨u255, _, rfl⟩ rfl (by decide) (fun z34 h34 => ?_)
      refine xgoto ⟨u255, _, rfl⟩ ?_
      have g : gTwo V a.toInt b.toInt = 1 := by unfold gTwo; rw [if_neg (fun z => by have : gPt V b.toInt = 0 := gPt_0.mpr ⟨z.2.2.1, z.2.2.2⟩; omega)]
      exact xretB ⟨u255, _, rfl⟩ rfl (by omega) (hR _ _ hH10 F10 (by rw [g]; omega) (Or.inr ⟨by omega, by omega⟩))
    · refine xald 17 ⟨u255, _, rfl⟩ rfl rfl ?_
      refine xild 18 ⟨u255, _, rfl⟩ rfl rfl ?_
      refine xild 19 ⟨u255, _, rfl⟩ rfl rfl ?_
      refine xcmp_ne 22 ⟨u255, _, rfl⟩ rfl (fun c19 => ?_) (fun c19 => ?_)
      · refine xcst 27 (0) ⟨u255, _, rfl⟩ rfl (by decide) (fun z26 h26 => ?_)
        refine xcst 28 (2) ⟨u255, _, rfl⟩ rfl (by decide) (fun z27 h27 => ?_)
        refine xcall 31 [.ref 66, .int _, .int _] [] hH10 ⟨u255, _, rfl⟩ rfl rfl rfl rfl rfl (k_failsE hH10 (by omega) (fun hp28 hH28 V28 => ⟨_, rfl, ?_⟩))
        refine xif_eq 34 ⟨u255, _, rfl⟩ rfl (fun c31 => ?_) (fun c31 => ?_)
        · refine xcst 39 (0) ⟨u255, _, rfl⟩ rfl (by decide) (fun z38 h38 => ?_)
          rcases V28 with ⟨a9, e⟩ | ⟨a9, U⟩
          · first
            | (exfalso; omega)
            | (subst e
               have k2 := gPt_0.mp (show gPt V a.toInt = 0 by omega)
               have k10 := gPt_0.mp (show gPt V b.toInt = 0 by omega)
               have g : gTwo V a.toInt b.toInt = 0 := gTwo_0.mpr (by omega)
               exact xretB ⟨u255, _, rfl⟩ rfl (by omega) (hR _ _ hH28 F10 (by rw [g]; omega) (Or.inl ⟨g, by omega⟩)))
          · first
            | (exfalso; omega)
            | (
               have k2 := gPt_0.mp (show gPt V a.toInt = 0 by omega)
               have k10 := gPt_0.mp (show gPt V b.toInt = 0 by omega)
               have g : gTwo V a.toInt b.toInt = 2 := by unfold gTwo; rw [if_pos (by omega), if_pos (by omega)]
               exact xretB ⟨u255, _, rfl⟩ rfl (by omega) (hR _ _ hH28 (F10.trans (rU_fr U rfl)) (by rw [g, U.1]; omega) (Or.inr ⟨by omega, by omega⟩)))
        · refine xcst 35 (1) ⟨u255, _, rfl⟩ rfl (by decide) (fun z34 h34 => ?_)
          refine xgoto ⟨u255, _, rfl⟩ ?_
          rcases V28 with ⟨a9, e⟩ | ⟨a9, U⟩
          · first
            | (exfalso; omega)
            | (subst e
               have k2 := gPt_0.mp (show gPt V a.toInt = 0 by omega)
               have k10 := gPt_0.mp (show gPt V b.toInt = 0 by omega)
               have g : gTwo V a.toInt b.toInt = 0 := gTwo_0.mpr (by omega)
               exact xretB ⟨u255, _, rfl⟩ rfl (by omega) (hR _ _ hH28 F10 (by rw [g]; omega) (Or.inl ⟨g, by omega⟩)))
          · first
            | (exfalso; omega)
            | (
               have k2 := gPt_0.mp (show gPt V a.toInt = 0 by omega)
               have k10 := gPt_0.mp (show gPt V b.toInt = 0 by omega)
               have g : gTwo V a.toInt b.toInt = 2 := by unfold gTwo; rw [if_pos (by omega), if_pos (by omega)]
               exact xretB ⟨u255, _, rfl⟩ rfl (by omega) (hR _ _ hH28 (F10.trans (rU_fr U rfl)) (by rw [g, U.1]; omega) (Or.inr ⟨by omega, by omega⟩)))
      · refine xcst 23 (1) ⟨u255, _, rfl⟩ rfl (by decide) (fun z22 h22 => ?_)
        refine xgoto ⟨u255, _, rfl⟩ ?_
        refine xcst 28 (2) ⟨u255, _, rfl⟩ rfl (by decide) (fun z27 h27 => ?_)
        refine xcall 31 [.ref 66, .int _, .int _] [] hH10 ⟨u255, _, rfl⟩ rfl rfl rfl rfl rfl (k_failsE hH10 (by omega) (fun hp28 hH28 V28 => ⟨_, rfl, ?_⟩))
        refine xif_eq 34 ⟨u255, _, rfl⟩ rfl (fun c31 => ?_) (fun c31 => ?_)
        · refine xcst 39 (0) ⟨u255, _, rfl⟩ rfl (by decide) (fun z38 h38 => ?_)
          rcases V28 with ⟨a9, e⟩ | ⟨a9, U⟩
          · first
            | (exfalso; omega)
            | (subst e
               have k2 := gPt_0.mp (show gPt V a.toInt = 0 by omega)
               have k10 := gPt_0.mp (show gPt V b.toInt = 0 by omega)
               have g : gTwo V a.toInt b.toInt = 0 := gTwo_0.mpr (by omega)
               exact xretB ⟨u255, _, rfl⟩ rfl (by omega) (hR _ _ hH28 F10 (by rw [g]; omega) (Or.inl ⟨g, by omega⟩)))
          · first
            | (exfalso; omega)
            | (
               have k2 := gPt_0.mp (show gPt V a.toInt = 0 by omega)
               have k10 := gPt_0.mp (show gPt V b.toInt = 0 by omega)
               have g : gTwo V a.toInt b.toInt = 2 := by unfold gTwo; rw [if_pos (by omega), if_pos (by omega)]
               exact xretB ⟨u255, _, rfl⟩ rfl (by omega) (hR _ _ hH28 (F10.trans (rU_fr U rfl)) (by rw [g, U.1]; omega) (Or.inr ⟨by omega, by omega⟩)))
        · refine xcst 35 (1) ⟨u255, _, rfl⟩ rfl (by decide) (fun z34 h34 => ?_)
          refine xgoto ⟨u255, _, rfl⟩ ?_
          rcases V28 with ⟨a9, e⟩ | ⟨a9, U⟩
          · first
            | (exfalso; omega)
            | (subst e
               have k2 := gPt_0.mp (show gPt V a.toInt = 0 by omega)
               have k10 := gPt_0.mp (show gPt V b.toInt = 0 by omega)
               have g : gTwo V a.toInt b.toInt = 0 := gTwo_0.mpr (by omega)
               exact xretB ⟨u255, _, rfl⟩ rfl (by omega) (hR _ _ hH28 F10 (by rw [g]; omega) (Or.inl ⟨g, by omega⟩)))
          · first
            | (exfalso; omega)
            | (
               have k2 := gPt_0.mp (show gPt V a.toInt = 0 by omega)
               have k10 := gPt_0.mp (show gPt V b.toInt = 0 by omega)
               have g : gTwo V a.toInt b.toInt = 2 := by unfold gTwo; rw [if_pos (by omega), if_pos (by omega)]
               exact xretB ⟨u255, _, rfl⟩ rfl (by omega) (hR _ _ hH28 (F10.trans (rU_fr U rfl)) (by rw [g, U.1]; omega) (Or.inr ⟨by omega, by omega⟩)))
theorem k_gp3 {d V : Nat} {hp : amH} {R : xQ} {a b c : Int32} (hH : bHk 84 bTT hp) (hV : rN hp 67 0 = (V : Int)) (h15 : V ≤ 15)
    (hR : ∀ (z : Int32) hp1, bHk 84 bTT hp1 → bFr [(66, 7)] hp hp1 → rN hp1 66 7 = gSet V a.toInt b.toInt c.toInt → ((gSet V a.toInt b.toInt c.toInt = 0 ∧ z.toInt = 0) ∨ (¬ gSet V a.toInt b.toInt c.toInt = 0 ∧ z.toInt = 1)) → R (.inl (some (.int z))) hp1) : xK (d + 2) 256 [.ref 66, .int a, .int b, .int c] hp R := by
  refine xin (M := am_m256) rfl rfl rfl ?_
  refine xald 1 ⟨u256, _, rfl⟩ rfl rfl ?_
  refine xild 2 ⟨u256, _, rfl⟩ rfl rfl ?_
  refine xcall 5 [.ref 66, .int _] [] hH ⟨u256, _, rfl⟩ rfl rfl rfl rfl rfl (k_gp1 hH (V := V) hV h15 (fun z2 hp2 hH2 f2 t2 o2 => ⟨_, rfl, ?_⟩))
  have F2 : bFr [(66, 7)] hp hp2 := f2
  refine xif_ne 8 ⟨u256, _, rfl⟩ rfl (fun c5 => ?_) (fun c5 => ?_)
  · refine xcst 53 (1) ⟨u256, _, rfl⟩ rfl (by decide) (fun z52 h52 => ?_)
    refine xgoto ⟨u256, _, rfl⟩ ?_
    have g : gSet V a.toInt b.toInt c.toInt = 1 := by unfold gSet; rw [if_neg (fun z => by have : gPt V a.toInt = 0 := gPt_0.mpr ⟨z.1, z.2.1⟩; omega)]
    exact xretB ⟨u256, _, rfl⟩ rfl (by omega) (hR _ _ hH2 F2 (by rw [g]; omega) (Or.inr ⟨by omega, by omega⟩))
  · refine xald 9 ⟨u256, _, rfl⟩ rfl rfl ?_
    refine xild 10 ⟨u256, _, rfl⟩ rfl rfl ?_
    refine xcall 13 [.ref 66, .int _] [] hH2 ⟨u256, _, rfl⟩ rfl rfl rfl rfl rfl (k_gp1 hH2 (V := V) (by rw [r_fr F2 rfl]; exact hV) h15 (fun z10 hp10 hH10 f10 t10 o10 => ⟨_, rfl, ?_⟩))
    have F10 : bFr [(66, 7)] hp hp10 := F2.trans f10
    refine xif_ne 16 ⟨u256, _, rfl⟩ rfl (fun c13 => ?_) (fun c13 => ?_)
    · refine xcst 53 (1) ⟨u256, _, rfl⟩ rfl (by decide) (fun z52 h52 => ?_)
      refine xgoto ⟨u256, _, rfl⟩ ?_
      have g : gSet V a.toInt b.toInt c.toInt = 1 := by unfold gSet; rw [if_neg (fun z => by have : gPt V b.toInt = 0 := gPt_0.mpr ⟨z.2.2.1, z.2.2.2.1⟩; omega)]
      exact xretB ⟨u256, _, rfl⟩ rfl (by omega) (hR _ _ hH10 F10 (by rw [g]; omega) (Or.inr ⟨by omega, by omega⟩))
    · refine xald 17 ⟨u256, _, rfl⟩ rfl rfl ?_
      refine xild 18 ⟨u256, _, rfl⟩ rfl rfl ?_
      refine xcall 21 [.ref 66, .int _] [] hH10 ⟨u256, _, rfl⟩ rfl rfl rfl rfl rfl (k_gp1 hH10 (V := V) (by rw [r_fr F10 rfl]; exact hV) h15 (fun z18 hp18 hH18 f18 t18 o18 => ⟨_, rfl, ?_⟩))
      have F18 : bFr [(66, 7)] hp hp18 := F10.trans f18
      refine xif_ne 24 ⟨u256, _, rfl⟩ rfl (fun c21 => ?_) (fun c21 => ?_)
      · refine xcst 53 (1) ⟨u256, _, rfl⟩ rfl (by decide) (fun z52 h52 => ?_)
        refine xgoto ⟨u256, _, rfl⟩ ?_
        have g : gSet V a.toInt b.toInt c.toInt = 1 := by unfold gSet; rw [if_neg (fun z => by have : gPt V c.toInt = 0 := gPt_0.mpr ⟨z.2.2.2.2.1, z.2.2.2.2.2⟩; omega)]
        exact xretB ⟨u256, _, rfl⟩ rfl (by omega) (hR _ _ hH18 F18 (by rw [g]; omega) (Or.inr ⟨by omega, by omega⟩))
      · refine xald 25 ⟨u256, _, rfl⟩ rfl rfl ?_
        refine xild 26 ⟨u256, _, rfl⟩ rfl rfl ?_
        refine xild 27 ⟨u256, _, rfl⟩ rfl rfl ?_
        refine xcmp_eq 30 ⟨u256, _, rfl⟩ rfl (fun c27 => ?_) (fun c27 => ?_)
        · refine xcst 41 (1) ⟨u256, _, rfl⟩ rfl (by decide) (fun z40 h40 => ?_)
          refine xgoto ⟨u256, _, rfl⟩ ?_
          refine xcst 46 (2) ⟨u256, _, rfl⟩ rfl (by decide) (fun z45 h45 => ?_)
          refine xcall 49 [.ref 66, .int _, .int _] [] hH18 ⟨u256, _, rfl⟩ rfl rfl rfl rfl rfl (k_failsE hH18 (by omega) (fun hp46 hH46 V46 => ⟨_, rfl, ?_⟩))
          refine xif_eq 52 ⟨u256, _, rfl⟩ rfl (fun c49 => ?_) (fun c49 => ?_)
          · refine xcst 57 (0) ⟨u256, _, rfl⟩ rfl (by decide) (fun z56 h56 => ?_)
            rcases V46 with ⟨a9, e⟩ | ⟨a9, U⟩
            · first
              | (exfalso; omega)
              | (subst e
                 have k2 := gPt_0.mp (show gPt V a.toInt = 0 by omega)
                 have k10 := gPt_0.mp (show gPt V b.toInt = 0 by omega)
                 have k18 := gPt_0.mp (show gPt V c.toInt = 0 by omega)
                 have g : gSet V a.toInt b.toInt c.toInt = 0 := gSet_0.mpr (by omega)
                 exact xretB ⟨u256, _, rfl⟩ rfl (by omega) (hR _ _ hH46 F18 (by rw [g]; omega) (Or.inl ⟨g, by omega⟩)))
            · first
              | (exfalso; omega)
              | (
                 have k2 := gPt_0.mp (show gPt V a.toInt = 0 by omega)
                 have k10 := gPt_0.mp (show gPt V b.toInt = 0 by omega)
                 have k18 := gPt_0.mp (show gPt V c.toInt = 0 by omega)
                 have g : gSet V a.toInt b.toInt c.toInt = 2 := by unfold gSet; rw [if_pos (by omega), if_pos (by omega)]
                 exact xretB ⟨u256, _, rfl⟩ rfl (by omega) (hR _ _ hH46 (F18.trans (rU_fr U rfl)) (by rw [g, U.1]; omega) (Or.inr ⟨by omega, by omega⟩)))
          · refine xcst 53 (1) ⟨u256, _, rfl⟩ rfl (by decide) (fun z52 h52 => ?_)
            refine xgoto ⟨u256, _, rfl⟩ ?_
            rcases V46 with ⟨a9, e⟩ | ⟨a9, U⟩
            · first
              | (exfalso; omega)
              | (subst e
                 have k2 := gPt_0.mp (show gPt V a.toInt = 0 by omega)
                 have k10 := gPt_0.mp (show gPt V b.toInt = 0 by omega)
                 have k18 := gPt_0.mp (show gPt V c.toInt = 0 by omega)
                 have g : gSet V a.toInt b.toInt c.toInt = 0 := gSet_0.mpr (by omega)
                 exact xretB ⟨u256, _, rfl⟩ rfl (by omega) (hR _ _ hH46 F18 (by rw [g]; omega) (Or.inl ⟨g, by omega⟩)))
            · first
              | (exfalso; omega)
              | (
                 have k2 := gPt_0.mp (show gPt V a.toInt = 0 by omega)
                 have k10 := gPt_0.mp (show gPt V b.toInt = 0 by omega)
                 have k18 := gPt_0.mp (show gPt V c.toInt = 0 by omega)
                 have g : gSet V a.toInt b.toInt c.toInt = 2 := by unfold gSet; rw [if_pos (by omega), if_pos (by omega)]
                 exact xretB ⟨u256, _, rfl⟩ rfl (by omega) (hR _ _ hH46 (F18.trans (rU_fr U rfl)) (by rw [g, U.1]; omega) (Or.inr ⟨by omega, by omega⟩)))
        · refine xild 31 ⟨u256, _, rfl⟩ rfl rfl ?_
          refine xild 32 ⟨u256, _, rfl⟩ rfl rfl ?_
          refine xcmp_eq 35 ⟨u256, _, rfl⟩ rfl (fun c32 => ?_) (fun c32 => ?_)
          · refine xcst 41 (1) ⟨u256, _, rfl⟩ rfl (by decide) (fun z40 h40 => ?_)
            refine xgoto ⟨u256, _, rfl⟩ ?_
            refine xcst 46 (2) ⟨u256, _, rfl⟩ rfl (by decide) (fun z45 h45 => ?_)
            refine xcall 49 [.ref 66, .int _, .int _] [] hH18 ⟨u256, _, rfl⟩ rfl rfl rfl rfl rfl (k_failsE hH18 (by omega) (fun hp46 hH46 V46 => ⟨_, rfl, ?_⟩))
            refine xif_eq 52 ⟨u256, _, rfl⟩ rfl (fun c49 => ?_) (fun c49 => ?_)
            · refine xcst 57 (0) ⟨u256, _, rfl⟩ rfl (by decide) (fun z56 h56 => ?_)
              rcases V46 with ⟨a9, e⟩ | ⟨a9, U⟩
              · first
                | (exfalso; omega)
                | (subst e
                   have k2 := gPt_0.mp (show gPt V a.toInt = 0 by omega)
                   have k10 := gPt_0.mp (show gPt V b.toInt = 0 by omega)
                   have k18 := gPt_0.mp (show gPt V c.toInt = 0 by omega)
                   have g : gSet V a.toInt b.toInt c.toInt = 0 := gSet_0.mpr (by omega)
                   exact xretB ⟨u256, _, rfl⟩ rfl (by omega) (hR _ _ hH46 F18 (by rw [g]; omega) (Or.inl ⟨g, by omega⟩)))
              · first
                | (exfalso; omega)
                | (
                   have k2 := gPt_0.mp (show gPt V a.toInt = 0 by omega)
                   have k10 := gPt_0.mp (show gPt V b.toInt = 0 by omega)
                   have k18 := gPt_0.mp (show gPt V c.toInt = 0 by omega)
                   have g : gSet V a.toInt b.toInt c.toInt = 2 := by unfold gSet; rw [if_pos (by omega), if_pos (by omega)]
                   exact xretB ⟨u256, _, rfl⟩ rfl (by omega) (hR _ _ hH46 (F18.trans (rU_fr U rfl)) (by rw [g, U.1]; omega) (Or.inr ⟨by omega, by omega⟩)))
            · refine xcst 53 (1) ⟨u256, _, rfl⟩ rfl (by decide) (fun z52 h52 => ?_)
              refine xgoto ⟨u256, _, rfl⟩ ?_
              rcases V46 with ⟨a9, e⟩ | ⟨a9, U⟩
              · first
                | (exfalso; omega)
                | (subst e
                   have k2 := gPt_0.mp (show gPt V a.toInt = 0 by omega)
                   have k10 := gPt_0.mp (show gPt V b.toInt = 0 by omega)
                   have k18 := gPt_0.mp (show gPt V c.toInt = 0 by omega)
                   have g : gSet V a.toInt b.toInt c.toInt = 0 := gSet_0.mpr (by omega)
                   exact xretB ⟨u256, _, rfl⟩ rfl (by omega) (hR _ _ hH46 F18 (by rw [g]; omega) (Or.inl ⟨g, by omega⟩)))
              · first
                | (exfalso; omega)
                | (
                   have k2 := gPt_0.mp (show gPt V a.toInt = 0 by omega)
                   have k10 := gPt_0.mp (show gPt V b.toInt = 0 by omega)
                   have k18 := gPt_0.mp (show gPt V c.toInt = 0 by omega)
                   have g : gSet V a.toInt b.toInt c.toInt = 2 := by unfold gSet; rw [if_pos (by omega), if_pos (by omega)]
                   exact xretB ⟨u256, _, rfl⟩ rfl (by omega) (hR _ _ hH46 (F18.trans (rU_fr U rfl)) (by rw [g, U.1]; omega) (Or.inr ⟨by omega, by omega⟩)))
          · refine xild 36 ⟨u256, _, rfl⟩ rfl rfl ?_
            refine xild 37 ⟨u256, _, rfl⟩ rfl rfl ?_
            refine xcmp_ne 40 ⟨u256, _, rfl⟩ rfl (fun c37 => ?_) (fun c37 => ?_)
            · refine xcst 45 (0) ⟨u256, _, rfl⟩ rfl (by decide) (fun z44 h44 => ?_)
              refine xcst 46 (2) ⟨u256, _, rfl⟩ rfl (by decide) (fun z45 h45 => ?_)
              refine xcall 49 [.ref 66, .int _, .int _] [] hH18 ⟨u256, _, rfl⟩ rfl rfl rfl rfl rfl (k_failsE hH18 (by omega) (fun hp46 hH46 V46 => ⟨_, rfl, ?_⟩))
              refine xif_eq 52 ⟨u256, _, rfl⟩ rfl (fun c49 => ?_) (fun c49 => ?_)
              · refine xcst 57 (0) ⟨u256, _, rfl⟩ rfl (by decide) (fun z56 h56 => ?_)
                rcases V46 with ⟨a9, e⟩ | ⟨a9, U⟩
                · first
                  | (exfalso; omega)
                  | (subst e
                     have k2 := gPt_0.mp (show gPt V a.toInt = 0 by omega)
                     have k10 := gPt_0.mp (show gPt V b.toInt = 0 by omega)
                     have k18 := gPt_0.mp (show gPt V c.toInt = 0 by omega)
                     have g : gSet V a.toInt b.toInt c.toInt = 0 := gSet_0.mpr (by omega)
                     exact xretB ⟨u256, _, rfl⟩ rfl (by omega) (hR _ _ hH46 F18 (by rw [g]; omega) (Or.inl ⟨g, by omega⟩)))
                · first
                  | (exfalso; omega)
                  | (
                     have k2 := gPt_0.mp (show gPt V a.toInt = 0 by omega)
                     have k10 := gPt_0.mp (show gPt V b.toInt = 0 by omega)
                     have k18 := gPt_0.mp (show gPt V c.toInt = 0 by omega)
                     have g : gSet V a.toInt b.toInt c.toInt = 2 := by unfold gSet; rw [if_pos (by omega), if_pos (by omega)]
                     exact xretB ⟨u256, _, rfl⟩ rfl (by omega) (hR _ _ hH46 (F18.trans (rU_fr U rfl)) (by rw [g, U.1]; omega) (Or.inr ⟨by omega, by omega⟩)))
              · refine xcst 53 (1) ⟨u256, _, rfl⟩ rfl (by decide) (fun z52 h52 => ?_)
                refine xgoto ⟨u256, _, rfl⟩ ?_
                rcases V46 with ⟨a9, e⟩ | ⟨a9, U⟩
                · first
                  | (exfalso; omega)
                  | (subst e
                     have k2 := gPt_0.mp (show gPt V a.toInt = 0 by omega)
                     have k10 := gPt_0.mp (show gPt V b.toInt = 0 by omega)
                     have k18 := gPt_0.mp (show gPt V c.toInt = 0 by omega)
                     have g : gSet V a.toInt b.toInt c.toInt = 0 := gSet_0.mpr (by omega)
                     exact xretB ⟨u256, _, rfl⟩ rfl (by omega) (hR _ _ hH46 F18 (by rw [g]; omega) (Or.inl ⟨g, by omega⟩)))
                · first
                  | (exfalso; omega)
                  | (
                     have k2 := gPt_0.mp (show gPt V a.toInt = 0 by omega)
                     have k10 := gPt_0.mp (show gPt V b.toInt = 0 by omega)
                     have k18 := gPt_0.mp (show gPt V c.toInt = 0 by omega)
                     have g : gSet V a.toInt b.toInt c.toInt = 2 := by unfold gSet; rw [if_pos (by omega), if_pos (by omega)]
                     exact xretB ⟨u256, _, rfl⟩ rfl (by omega) (hR _ _ hH46 (F18.trans (rU_fr U rfl)) (by rw [g, U.1]; omega) (Or.inr ⟨by omega, by omega⟩)))
            · refine xcst 41 (1) ⟨u256, _, rfl⟩ rfl (by decide) (fun z40 h40 => ?_)
              refine xgoto ⟨u256, _, rfl⟩ ?_
              refine xcst 46 (2) ⟨u256, _, rfl⟩ rfl (by decide) (fun z45 h45 => ?_)
              refine xcall 49 [.ref 66, .int _, .int _] [] hH18 ⟨u256, _, rfl⟩ rfl rfl rfl rfl rfl (k_failsE hH18 (by omega) (fun hp46 hH46 V46 => ⟨_, rfl, ?_⟩))
              refine xif_eq 52 ⟨u256, _, rfl⟩ rfl (fun c49 => ?_) (fun c49 => ?_)
              · refine xcst 57 (0) ⟨u256, _, rfl⟩ rfl (by decide) (fun z56 h56 => ?_)
                rcases V46 with ⟨a9, e⟩ | ⟨a9, U⟩
                · first
                  | (exfalso; omega)
                  | (subst e
                     have k2 := gPt_0.mp (show gPt V a.toInt = 0 by omega)
                     have k10 := gPt_0.mp (show gPt V b.toInt = 0 by omega)
                     have k18 := gPt_0.mp (show gPt V c.toInt = 0 by omega)
                     have g : gSet V a.toInt b.toInt c.toInt = 0 := gSet_0.mpr (by omega)
                     exact xretB ⟨u256, _, rfl⟩ rfl (by omega) (hR _ _ hH46 F18 (by rw [g]; omega) (Or.inl ⟨g, by omega⟩)))
                · first
                  | (exfalso; omega)
                  | (
                     have k2 := gPt_0.mp (show gPt V a.toInt = 0 by omega)
                     have k10 := gPt_0.mp (show gPt V b.toInt = 0 by omega)
                     have k18 := gPt_0.mp (show gPt V c.toInt = 0 by omega)
                     have g : gSet V a.toInt b.toInt c.toInt = 2 := by unfold gSet; rw [if_pos (by omega), if_pos (by omega)]
                     exact xretB ⟨u256, _, rfl⟩ rfl (by omega) (hR _ _ hH46 (F18.trans (rU_fr U rfl)) (by rw [g, U.1]; omega) (Or.inr ⟨by omega, by omega⟩)))
              · refine xcst 53 (1) ⟨u256, _, rfl⟩ rfl (by decide) (fun z52 h52 => ?_)
                refine xgoto ⟨u256, _, rfl⟩ ?_
                rcases V46 with ⟨a9, e⟩ | ⟨a9, U⟩
                · first
                  | (exfalso; omega)
                  | (subst e
                     have k2 := gPt_0.mp (show gPt V a.toInt = 0 by omega)
                     have k10 := gPt_0.mp (show gPt V b.toInt = 0 by omega)
                     have k18 := gPt_0.mp (show gPt V c.toInt = 0 by omega)
                     have g : gSet V a.toInt b.toInt c.toInt = 0 := gSet_0.mpr (by omega)
                     exact xretB ⟨u256, _, rfl⟩ rfl (by omega) (hR _ _ hH46 F18 (by rw [g]; omega) (Or.inl ⟨g, by omega⟩)))
                · first
                  | (exfalso; omega)
                  | (
                     have k2 := gPt_0.mp (show gPt V a.toInt = 0 by omega)
                     have k10 := gPt_0.mp (show gPt V b.toInt = 0 by omega)
                     have k18 := gPt_0.mp (show gPt V c.toInt = 0 by omega)
                     have g : gSet V a.toInt b.toInt c.toInt = 2 := by unfold gSet; rw [if_pos (by omega), if_pos (by omega)]
                     exact xretB ⟨u256, _, rfl⟩ rfl (by omega) (hR _ _ hH46 (F18.trans (rU_fr U rfl)) (by rw [g, U.1]; omega) (Or.inr ⟨by omega, by omega⟩)))
end
/-! ##### 19.m.043.32c ##### -/
section
/-! ===== triples by their numbers ===== -/
theorem trL_ix {T : sT} {n : Nat} (hb : trB T n = true) : ∀ k, (trL T n).length < (trL T (n + 1 + k)).length ∧ (trL T (n + 1 + k)).getD (trL T n).length 0 = n
  | 0 => by
    show (trL T n).length < (trL T (n + 1)).length ∧ (trL T (n + 1)).getD (trL T n).length 0 = n
    rw [trL_add hb, gd_end, List.length_append, List.length_singleton]
    exact ⟨Nat.lt_succ_self _, rfl⟩
  | k + 1 => by
    obtain ⟨i1, i2⟩ := trL_ix hb k
    have e : trL T (n + 1 + (k + 1)) = (if trB T (n + 1 + k) = true then trL T (n + 1 + k) ++ [n + 1 + k] else trL T (n + 1 + k)) := rfl
    rw [e]
    split
    · rw [gd_app i1, List.length_append]
      exact ⟨by omega, i2⟩
    · exact ⟨i1, i2⟩
/-- the number of the triple of a covered pair -/
theorem ix_of {V : Nat} {T : sT} (hT : sOk V T) {a b : Nat} (h : ¬ T a b = -1) : ∃ t, t < (trL T 225).length ∧ (trL T 225).getD t 0 = cd T a b := by
  obtain ⟨g1, g2, -⟩ := cd_of hT h
  obtain ⟨k1, k2⟩ := trL_ix g1 (224 - cd T a b)
  rw [show cd T a b + 1 + (224 - cd T a b) = 225 by omega] at k1 k2
  exact ⟨_, k1, k2⟩
theorem gd_inj {T : sT} {s t : Nat} (hs : s < (trL T 225).length) (ht : t < (trL T 225).length) (e : (trL T 225).getD s 0 = (trL T 225).getD t 0) : s = t := by
  have h1 := (trL_get 225 s hs).2.2
  have h2 := (trL_get 225 t ht).2.2
  rw [e] at h1
  omega
theorem m3_eq {a b c x y z : Nat} (h : m3 a b c = m3 x y z) (i : Nat) : (i = a ∨ i = b ∨ i = c) ↔ (i = x ∨ i = y ∨ i = z) := by
  have : (m3 a b c).testBit i = (m3 x y z).testBit i := by rw [h]
  rw [m3_test, m3_test, decide_eq_decide] at this
  exact this
/-- the set of a triple of the list tells its third points -/
theorem mk_T {V : Nat} {T : sT} (hT : sOk V T) {n a b c : Nat} (hn : trB T n = true) (e : mk3 T n = m3 a b c) (hab : ¬ a = b) (hbc : ¬ b = c) (hac : ¬ a = c) : T a b = (c : Int) ∧ cd T a b = n := by
  obtain ⟨z, ez, h1, h2, h3⟩ := tr_pts hT hn
  have e2 : m3 (n / 15) (n % 15) z = m3 a b c := by rw [← e]; unfold mk3; rw [ez, Int.toNat_natCast]
  have q := fun i => m3_eq e2 i
  have qa := (q a).mpr (Or.inl rfl)
  have qb := (q b).mpr (Or.inr (Or.inl rfl))
  have qc := (q c).mpr (Or.inr (Or.inr rfl))
  have hp := cd_pr hT (u := a) (v := b) hn (by rw [ez, Int.toNat_natCast]; exact ⟨hab, qa, qb⟩)
  rw [ez] at hp
  obtain ⟨p1, p2, p3⟩ := hp
  refine ⟨?_, p3⟩
  omega
theorem mk_cd {V : Nat} {T : sT} (hT : sOk V T) {a b c : Nat} (e : T a b = (c : Int)) : mk3 T (cd T a b) = m3 a b c := by
  obtain ⟨g1, -, g3⟩ := cd_of hT (u := a) (v := b) (by omega)
  obtain ⟨z, ez, h1, h2, h3⟩ := tr_pts hT g1
  rw [ez, Int.toNat_natCast] at g3
  have hp := (cd_pr hT (u := a) (v := b) g1 (by rw [ez, Int.toNat_natCast]; exact g3)).1
  rw [ez, e] at hp
  unfold mk3
  rw [ez, Int.toNat_natCast]
  obtain ⟨k1, k2, k3⟩ := g3
  obtain ⟨w, ew, -, -, -, d1, d2, d3, -⟩ := sOk_at hT e (by omega)
  apply Nat.eq_of_testBit_eq
  intro i
  rw [m3_test, m3_test, decide_eq_decide]
  omega
noncomputable def nmF (T : sT) (m : Nat) : Nat → Nat → Int
  | _, 0 => -1
  | k, f + 1 => if mk3 T ((trL T 225).getD k 0) = m then (k : Int) else nmF T m (k + 1) f
/-- the number of the triple with the set m; -1 -/
noncomputable def nmT (T : sT) (m : Nat) : Int := nmF T m 0 (trL T 225).length
theorem nmF_no {T : sT} {m : Nat} : ∀ (f k : Nat), (∀ j, k ≤ j → j < k + f → ¬ mk3 T ((trL T 225).getD j 0) = m) → nmF T m k f = -1
  | 0, k, _ => rfl
  | f + 1, k, h => by
    unfold nmF
    rw [if_neg (h k (Nat.le_refl k) (by omega))]
    exact nmF_no f (k + 1) (fun j h1 h2 => h j (by omega) (by omega))
theorem nmF_at {T : sT} {m t : Nat} : ∀ (f k : Nat), k ≤ t → t < k + f → mk3 T ((trL T 225).getD t 0) = m → (∀ j, k ≤ j → j < t → ¬ mk3 T ((trL T 225).getD j 0) = m) → nmF T m k f = (t : Int)
  | 0, k, h1, h2, _, _ => by omega
  | f + 1, k, h1, h2, h3, h4 => by
    unfold nmF
    by_cases e : k = t
    · subst e
      rw [if_pos h3]
    · rw [if_neg (h4 k (Nat.le_refl k) (by omega))]
      exact nmF_at f (k + 1) (by omega) (by omega) h3 (fun j g1 g2 => h4 j (by omega) g2)
theorem nm_no {V : Nat} {T : sT} (hT : sOk V T) {a b c : Nat} (hab : ¬ a = b) (hbc : ¬ b = c) (hac : ¬ a = c) (h : ¬ T a b = (c : Int)) : nmT T (m3 a b c) = -1 := by
  refine nmF_no _ _ (fun j h1 h2 => fun e => h ?_)
  exact (mk_T hT (trL_get 225 j (by omega)).1 e hab hbc hac).1
theorem nm_at {V : Nat} {T : sT} (hT : sOk V T) {a b c t : Nat} (e : T a b = (c : Int)) (ht : t < (trL T 225).length) (hg : (trL T 225).getD t 0 = cd T a b) : nmT T (m3 a b c) = (t : Int) := by
  obtain ⟨w, ew, -, -, -, d1, d2, d3, -⟩ := sOk_at hT e (by omega)
  refine nmF_at _ _ (Nat.zero_le t) (by omega) (by rw [hg]; exact mk_cd hT e) (fun j h1 h2 z => ?_)
  have g := (mk_T hT (trL_get 225 j (by omega)).1 z (by omega) (by omega) (by omega)).2
  have := gd_inj (by omega) ht (g.symm.trans hg.symm)
  omega
theorem nm_of {V : Nat} {T : sT} (hT : sOk V T) {a b c : Nat} (e : T a b = (c : Int)) : ∃ t, t < (trL T 225).length ∧ (trL T 225).getD t 0 = cd T a b ∧ nmT T (m3 a b c) = (t : Int) := by
  obtain ⟨t, h1, h2⟩ := ix_of hT (a := a) (b := b) (by omega)
  exact ⟨t, h1, h2, nm_at hT e h1 h2⟩
/-- the set of the triple numbered t -/
theorem nm_mk {V : Nat} {T : sT} (hT : sOk V T) {t : Nat} (ht : t < (trL T 225).length) : nmT T (mk3 T ((trL T 225).getD t 0)) = (t : Int) := by
  obtain ⟨g1, g2, g3⟩ := trL_get 225 t ht
  obtain ⟨z, ez, h1, h2, h3⟩ := tr_pts hT g1
  refine nmF_at _ _ (Nat.zero_le t) (by omega) rfl (fun j k1 k2 w => ?_)
  have e2 : mk3 T ((trL T 225).getD t 0) = m3 ((trL T 225).getD t 0 / 15) ((trL T 225).getD t 0 % 15) z := by unfold mk3; rw [ez, Int.toNat_natCast]
  have c1 := (mk_T hT (trL_get 225 j (by omega)).1 (w.trans e2) (by omega) (by omega) (by omega)).2
  have c2 := (mk_T hT g1 e2 (by omega) (by omega) (by omega)).2
  have := gd_inj (s := j) (by omega) ht (by omega)
  omega
theorem u10 : bUp 0 am_m10.1 = true := by decide +kernel
theorem u11 : bUp 0 am_m11.1 = true := by decide +kernel
theorem u12 : bUp 0 am_m12.1 = true := by decide +kernel
theorem k_bdropU {d : Nat} {hp : amH} {R : xQ} {o V a b c : Nat} {T : sT} {s : Int32} (ho : bo o) (hH : bHk 84 bTT hp) (hB : bdOk hp o V T) (hs : s.toInt = ((m3 a b c : Nat) : Int)) (e : T a b = (c : Int))
    (hR : ∀ hp1, bHk 84 bTT hp1 → bFx [o + 1, o + 3] hp hp1 → bdOk hp1 o V (sTake T a b c) → R (.inl none) hp1) : xK (d + 2) 15 [.ref o, .int s] hp R := by
  have hT := hB.2.1
  obtain ⟨w, ew, l1, l2, l3, d1, d2, d3, t1, t2, t3, t4, t5⟩ := sOk_at hT e (by omega)
  have : w = c := by omega
  subst this
  have go : ∀ x y z : Nat, x < y → y < z → (∀ i, (i = a ∨ i = b ∨ i = w) ↔ (i = x ∨ i = y ∨ i = z)) → T x y = (z : Int) → xK (d + 2) 15 [.ref o, .int s] hp R := by
    intro x y z h1 h2 h3 h4
    have e1 : m3 a b w = m3 x y z := by
      apply Nat.eq_of_testBit_eq
      intro i
      rw [m3_test, m3_test, decide_eq_decide]
      exact h3 i
    have e2 : sTake T a b w = sTake T x y z := by
      funext u v
      unfold sTake
      have q : sPr a b w u v ↔ sPr x y z u v := by unfold sPr; rw [h3 u, h3 v]
      by_cases g : sPr a b w u v
      · rw [if_pos g, if_pos (q.mp g)]
      · rw [if_neg g, if_neg (fun z => g (q.mpr z))]
    rw [e2] at hR
    exact k_bdrop ho hH hB (by rw [hs, e1]) h1 h2 h4 hR
  rcases Nat.lt_or_gt_of_ne d1 with h1 | h1
  · rcases Nat.lt_or_gt_of_ne d3 with h2 | h2
    · exact go a b w h1 h2 (fun i => by omega) e
    · rcases Nat.lt_or_gt_of_ne d2 with h3 | h3
      · exact go a w b h3 h2 (fun i => by omega) t2
      · exact go w a b h3 h1 (fun i => by omega) t4
  · rcases Nat.lt_or_gt_of_ne d2 with h2 | h2
    · exact go b a w h1 h2 (fun i => by omega) t1
    · rcases Nat.lt_or_gt_of_ne d3 with h3 | h3
      · exact go b w a h3 h2 (fun i => by omega) t3
      · exact go w b a h3 h1 (fun i => by omega) t5
/-- one of three points leads to the others just as any two lead to the third -/
theorem T_perm {V : Nat} {T : sT} (hT : sOk V T) {a b c x y z : Nat} (h : ∀ i, (i = a ∨ i = b ∨ i = c) ↔ (i = x ∨ i = y ∨ i = z)) (hab : ¬ a = b) (hbc : ¬ b = c) (hac : ¬ a = c) (hxy : ¬ x = y) (hyz : ¬ y = z) (hxz : ¬ x = z) (e : T a b = (c : Int)) : T x y = (z : Int) := by
  obtain ⟨w, ew, l1, l2, l3, d1, d2, d3, t1, t2, t3, t4, t5⟩ := sOk_at hT e (by omega)
  have : w = c := by omega
  subst this
  have hx := (h x).mpr (Or.inl rfl)
  have hy := (h y).mpr (Or.inr (Or.inl rfl))
  have hz := (h z).mpr (Or.inr (Or.inr rfl))
  rcases hx with rfl | rfl | rfl <;> rcases hy with rfl | rfl | rfl <;> rcases hz with rfl | rfl | rfl <;> first | exact absurd rfl hxy | exact absurd rfl hyz | exact absurd rfl hxz | exact e | assumption
theorem k_hld {d : Nat} {hp : amH} {R : xQ} {o V a b c : Nat} {T : sT} {s : Int32} (ho : bo o) (hH : bHk 84 bTT hp) (hB : bdOk hp o V T) (hs : s.toInt = ((m3 a b c : Nat) : Int)) (ha : a < V) (hb : b < V) (hc : c < V) (hab : ¬ a = b) (hbc : ¬ b = c) (hac : ¬ a = c) (hR : ∀ r : Int32, ((r.toInt = 1 ∧ T a b = (c : Int)) ∨ (r.toInt = 0 ∧ ¬ T a b = (c : Int))) → R (.inl (some (.int r))) hp) : xK (d + 2) 12 [.ref o, .int s] hp R := by
  have hV := hB.2.1.2.1
  obtain ⟨x, y, z, g1, g2, g3, -, -, g6, g7⟩ := srt hab hbc hac
  obtain ⟨l1, l2, l3⟩ := g6 (fun i => i < V) ha hb hc
  have l1 : x < V := l1
  have l2 : y < V := l2
  have l3 : z < V := l3
  obtain ⟨M0, M1, M2⟩ := mem3 g1 g2 (by omega)
  have hm := m3_lt (x := x) (y := y) (z := z) (by omega) (by omega) (by omega)
  rw [g3] at hs
  have key : T a b = (c : Int) ↔ T x y = (z : Int) := ⟨T_perm hB.2.1 g7 hab hbc hac (by omega) (by omega) (by omega), T_perm hB.2.1 (fun i => (g7 i).symm) (by omega) (by omega) (by omega) hab hbc hac⟩
  refine xin (M := am_m12) rfl rfl (by unfold xAv; simp [amOk, bo_lt ho, Value.category]) ?_
  refine xild 1 ⟨u12, _, rfl⟩ rfl rfl ?_
  refine xcst 2 (2) ⟨u12, _, rfl⟩ rfl (by decide) (fun z1 h1 => ?_)
  refine xcallS 5 [.int _, .int _] [] hH ⟨u12, _, rfl⟩ rfl rfl rfl rfl rfl (k_mem hH hs hm (i := 2) (by omega) (fun z2 h2 => ⟨_, rfl, ?_⟩))
  refine xist 6 ⟨u12, _, rfl⟩ rfl rfl ?_
  refine xild 7 ⟨u12, _, rfl⟩ rfl rfl ?_
  refine xcst 8 (-1) ⟨u12, _, rfl⟩ rfl (by decide) (fun z7 h7 => ?_)
  refine xcmp_eq 11 ⟨u12, _, rfl⟩ rfl (fun c8 => ?_) (fun c8 => ?_)
  · omega
  · refine xald 12 ⟨u12, _, rfl⟩ rfl rfl ?_
    refine xild 13 ⟨u12, _, rfl⟩ rfl rfl ?_
    refine xcst 14 (0) ⟨u12, _, rfl⟩ rfl (by decide) (fun z13 h13 => ?_)
    refine xcallS 17 [.int _, .int _] [.ref (o)] hH ⟨u12, _, rfl⟩ rfl rfl rfl (by simp [amOkS, amOk, bo_lt ho, bo_lt1 ho, bo_lt2 ho, bo_lt3 ho, bo_lt4 ho]) rfl (k_mem hH hs hm (i := 0) (by omega) (fun z14 h14 => ⟨_, rfl, ?_⟩))
    refine xild 18 ⟨u12, _, rfl⟩ rfl rfl ?_
    refine xcst 19 (1) ⟨u12, _, rfl⟩ rfl (by decide) (fun z18 h18 => ?_)
    refine xcallS 22 [.int _, .int _] [.int _, .ref (o)] hH ⟨u12, _, rfl⟩ rfl rfl rfl (by simp [amOkS, amOk, bo_lt ho, bo_lt1 ho, bo_lt2 ho, bo_lt3 ho, bo_lt4 ho]) rfl (k_mem hH hs hm (i := 1) (by omega) (fun z19 h19 => ⟨_, rfl, ?_⟩))
    refine xcallC 25 (o := o) [.int _, .int _] [] hH ⟨u12, _, rfl⟩ rfl rfl (bo_lt ho) (bo_T ho) (by decide) rfl ⟨rfl, rfl, rfl, rfl⟩ rfl (k_thd ho hH hB (fun z22 h22 => ⟨_, rfl, ?_⟩))
    rw [if_pos (by omega), show z14.toInt.toNat = x by omega, show z19.toInt.toNat = y by omega] at h22
    refine xild 26 ⟨u12, _, rfl⟩ rfl rfl ?_
    refine xcmp_ne 29 ⟨u12, _, rfl⟩ rfl (fun c26 => ?_) (fun c26 => ?_)
    · refine xcst 34 (0) ⟨u12, _, rfl⟩ rfl (by decide) (fun z33 h33 => ?_)
      exact xretB ⟨u12, _, rfl⟩ rfl (by omega) (hR _ (Or.inr ⟨by omega, fun g => by have := key.mp g; omega⟩))
    · refine xcst 30 (1) ⟨u12, _, rfl⟩ rfl (by decide) (fun z29 h29 => ?_)
      refine xgoto ⟨u12, _, rfl⟩ ?_
      exact xretB ⟨u12, _, rfl⟩ rfl (by omega) (hR _ (Or.inl ⟨by omega, key.mpr (by omega)⟩))
/-- the number of the triple of a covered pair, as the board has it -/
theorem k_nbc {d : Nat} {hp : amH} {R : xQ} {o V x y : Nat} {T : sT} {a b : Int32} (ho : bo o) (hH : bHk 84 bTT hp) (hB : bdOk hp o V T) (hL : lsN hp o T 225) (ha : a.toInt = (x : Int)) (hb : b.toInt = (y : Int)) (h : ¬ T x y = -1) (hR : ∀ (r : Int32) (t : Nat), t < (trL T 225).length → (trL T 225).getD t 0 = cd T x y → r.toInt = (t : Int) → R (.inl (some (.int r))) hp) : xK (d + 1) 10 [.ref o, .int a, .int b] hp R := by
  have hV := hB.2.1.2.1
  have bV := hB.1
  obtain ⟨w, ew, l1, l2, l3, d1, d2, d3, -⟩ := sOk_at hB.2.1 rfl h
  obtain ⟨t, t1, t2⟩ := ix_of hB.2.1 h
  have cp := (cd_of hB.2.1 h).2.2
  have nb : rN hp (o + 2) (15 * x + y) = (t : Int) := hL.2.2 t x y t1 (by omega) (by omega) (by rw [t2]; exact cp)
  refine xin (M := am_m10) rfl rfl (by unfold xAv; simp [amOk, bo_lt ho, Value.category]) ?_
  refine xald 1 ⟨u10, _, rfl⟩ rfl rfl ?_
  refine xild 2 ⟨u10, _, rfl⟩ rfl rfl ?_
  refine xcallC 5 (o := o) [.int _] [] hH ⟨u10, _, rfl⟩ rfl rfl (bo_lt ho) (bo_T ho) (by decide) rfl ⟨rfl, rfl, rfl, rfl⟩ rfl (k_isp ho hH (fun z2 h2 => ⟨_, rfl, ?_⟩))
  refine xif_eq 8 ⟨u10, _, rfl⟩ rfl (fun c5 => ?_) (fun c5 => ?_)
  · omega
  · refine xald 9 ⟨u10, _, rfl⟩ rfl rfl ?_
    refine xild 10 ⟨u10, _, rfl⟩ rfl rfl ?_
    refine xcallC 13 (o := o) [.int _] [] hH ⟨u10, _, rfl⟩ rfl rfl (bo_lt ho) (bo_T ho) (by decide) rfl ⟨rfl, rfl, rfl, rfl⟩ rfl (k_isp ho hH (fun z10 h10 => ⟨_, rfl, ?_⟩))
    refine xif_eq 16 ⟨u10, _, rfl⟩ rfl (fun c13 => ?_) (fun c13 => ?_)
    · omega
    · refine xald 17 ⟨u10, _, rfl⟩ rfl rfl ?_
      refine xild 18 ⟨u10, _, rfl⟩ rfl rfl ?_
      refine xild 19 ⟨u10, _, rfl⟩ rfl rfl ?_
      refine xcallC 22 (o := o) [.int _, .int _] [] hH ⟨u10, _, rfl⟩ rfl rfl (bo_lt ho) (bo_T ho) (by decide) rfl ⟨rfl, rfl, rfl, rfl⟩ rfl (k_thd ho hH hB (fun z19 h19 => ⟨_, rfl, ?_⟩))
      rw [if_pos (by omega), show a.toInt.toNat = x by omega, show b.toInt.toNat = y by omega] at h19
      refine xcst 23 (-1) ⟨u10, _, rfl⟩ rfl (by decide) (fun z22 h22 => ?_)
      refine xcmp_eq 26 ⟨u10, _, rfl⟩ rfl (fun c23 => ?_) (fun c23 => ?_)
      · omega
      · refine xcst 27 (1) ⟨u10, _, rfl⟩ rfl (by decide) (fun z26 h26 => ?_)
        refine xgoto ⟨u10, _, rfl⟩ ?_
        refine xist 32 ⟨u10, _, rfl⟩ rfl rfl ?_
        refine xild 33 ⟨u10, _, rfl⟩ rfl rfl ?_
        refine xif_eq 36 ⟨u10, _, rfl⟩ rfl (fun c33 => ?_) (fun c33 => ?_)
        · omega
        · refine xald 37 ⟨u10, _, rfl⟩ rfl rfl ?_
          refine xgetD 40 (o + 2) hH ⟨u10, _, rfl⟩ rfl (bo_lt ho) (by decide) (bo_T ho) rfl (by decide) ?_
          refine xild 41 ⟨u10, _, rfl⟩ rfl rfl ?_
          refine xbip 43 (15) ⟨u10, _, rfl⟩ rfl (by decide) (fun z41 h41 => ?_)
          refine xmul 44 (Int32.toInt a * 15) ⟨u10, _, rfl⟩ rfl (by rw [h41]) (by omega) (by omega) (fun z43 h43 => ?_)
          refine xild 45 ⟨u10, _, rfl⟩ rfl rfl ?_
          refine xadd 46 _ ⟨u10, _, rfl⟩ rfl rfl (by omega) (by omega) (fun z45 h45 => ?_)
          refine xiald 47 (z45).toInt.toNat hH ⟨u10, _, rfl⟩ rfl (bo_lt2 ho) (bo_T2 ho) (by omega) (by omega) (fun z46 h46 => ?_)
          refine xgoto ⟨u10, _, rfl⟩ ?_
          exact xret ⟨u10, _, rfl⟩ rfl (hR _ t t1 t2 (by rw [h46, show z45.toInt.toNat = 15 * x + y by omega]; exact nb))
theorem k_nof {d : Nat} {hp : amH} {R : xQ} {o V a b c : Nat} {T : sT} {s : Int32} (ho : bo o) (hH : bHk 84 bTT hp) (hB : bdOk hp o V T) (hL : lsN hp o T 225) (hs : s.toInt = ((m3 a b c : Nat) : Int)) (ha : a < V) (hb : b < V) (hc : c < V) (hab : ¬ a = b) (hbc : ¬ b = c) (hac : ¬ a = c) (hR : ∀ r : Int32, r.toInt = nmT T (m3 a b c) → R (.inl (some (.int r))) hp) : xK (d + 3) 11 [.ref o, .int s] hp R := by
  have hs0 := hs
  have hV := hB.2.1.2.1
  obtain ⟨x, y, z, g1, g2, g3, -, -, g6, g7⟩ := srt hab hbc hac
  obtain ⟨l1, l2, l3⟩ := g6 (fun i => i < V) ha hb hc
  have l1 : x < V := l1
  have l2 : y < V := l2
  have l3 : z < V := l3
  obtain ⟨M0, M1, M2⟩ := mem3 g1 g2 (by omega)
  have hm := m3_lt (x := x) (y := y) (z := z) (by omega) (by omega) (by omega)
  rw [g3] at hs
  have key : T a b = (c : Int) ↔ T x y = (z : Int) := ⟨T_perm hB.2.1 g7 hab hbc hac (by omega) (by omega) (by omega), T_perm hB.2.1 (fun i => (g7 i).symm) (by omega) (by omega) (by omega) hab hbc hac⟩
  refine xin (M := am_m11) rfl rfl (by unfold xAv; simp [amOk, bo_lt ho, Value.category]) ?_
  refine xald 1 ⟨u11, _, rfl⟩ rfl rfl ?_
  refine xild 2 ⟨u11, _, rfl⟩ rfl rfl ?_
  refine xcallC 5 (o := o) [.int _] [] hH ⟨u11, _, rfl⟩ rfl rfl (bo_lt ho) (bo_T ho) (by decide) rfl ⟨rfl, rfl, rfl, rfl⟩ rfl (k_hld ho hH hB hs0 ha hb hc hab hbc hac (fun z2 h2 => ⟨_, rfl, ?_⟩))
  refine xif_eq 8 ⟨u11, _, rfl⟩ rfl (fun c5 => ?_) (fun c5 => ?_)
  · refine xcst 26 (-1) ⟨u11, _, rfl⟩ rfl (by decide) (fun z25 h25 => ?_)
    exact xret ⟨u11, _, rfl⟩ rfl (hR _ (by rw [nm_no hB.2.1 hab hbc hac (by omega)]; exact h25))
  · have exy : T x y = (z : Int) := key.mp (by omega)
    refine xald 9 ⟨u11, _, rfl⟩ rfl rfl ?_
    refine xild 10 ⟨u11, _, rfl⟩ rfl rfl ?_
    refine xcst 11 (0) ⟨u11, _, rfl⟩ rfl (by decide) (fun z10 h10 => ?_)
    refine xcallS 14 [.int _, .int _] [.ref (o)] hH ⟨u11, _, rfl⟩ rfl rfl rfl (by simp [amOkS, amOk, bo_lt ho, bo_lt1 ho, bo_lt2 ho, bo_lt3 ho, bo_lt4 ho]) rfl (k_mem hH hs hm (i := 0) (by omega) (fun z11 h11 => ⟨_, rfl, ?_⟩))
    refine xild 15 ⟨u11, _, rfl⟩ rfl rfl ?_
    refine xcst 16 (1) ⟨u11, _, rfl⟩ rfl (by decide) (fun z15 h15 => ?_)
    refine xcallS 19 [.int _, .int _] [.int _, .ref (o)] hH ⟨u11, _, rfl⟩ rfl rfl rfl (by simp [amOkS, amOk, bo_lt ho, bo_lt1 ho, bo_lt2 ho, bo_lt3 ho, bo_lt4 ho]) rfl (k_mem hH hs hm (i := 1) (by omega) (fun z16 h16 => ⟨_, rfl, ?_⟩))
    refine xcallC 22 (o := o) [.int _, .int _] [] hH ⟨u11, _, rfl⟩ rfl rfl (bo_lt ho) (bo_T ho) (by decide) rfl ⟨rfl, rfl, rfl, rfl⟩ rfl (k_nbc ho hH hB hL (x := x) (y := y) (by omega) (by omega) (by omega) (fun z19 t19 k19 e19 h19 => ⟨_, rfl, ?_⟩))
    refine xgoto ⟨u11, _, rfl⟩ ?_
    exact xret ⟨u11, _, rfl⟩ rfl (hR _ (by rw [g3, nm_at hB.2.1 exy k19 e19]; exact h19))
end
