/-! ##### 19.m.042.32b ##### -/
section
/-! ===== what calls require, on both sides ===== -/
section XT
variable {M : amM} {pc a b d : Nat} {L : List (Option Value)} {st : List Value} {hp : amH} {Q : xQ}
theorem xthr {E : Nat} {i : _} (h : xI M pc (.new i) E b) (hb : ¬ b = 0) (hm : M.2.2.2.2.2.1 = []) (hs : (st.map fun v => v.category).sum ≤ 8) (hQ : Q (.inr E) hp) : xV d M pc L st hp Q := by
  intro cl hl
  obtain ⟨hu, r, hr2⟩ := h
  rw [hr2]
  refine bWp_thr (q := (pc, .new i, E, b)) ?_ hQ
  simp only [amDo]
  rw [if_neg hb, if_pos ⟨hs, hm⟩]
theorem xcallT (q : Nat) {k o t n : Nat} {ys : List bY} {j : _} {N : amM} (av rest : List Value) {st : List Value} (hH : bHk 84 bTT hp) (h : xI M pc (.invokevirtual j) k 0) (e : q = pc + 3) (hst : st = (Value.ref o :: av).reverse ++ rest) (ho : o < 84) (hT : bTT o = some (t, n, ys)) (h32 : t < 32) (hN : amGG k = some N)
    (hc : N.2.2.1 = av.length + 1 ∧ N.2.2.2.2.2.2 = t ∧ Nat.ble (((Value.ref o :: av).reverse.map fun v => v.category).sum) N.2.1 = true ∧ Nat.ble ((rest.map fun v => v.category).sum) 8 = true) (hr : amOkS 84 rest = true)
    (hk : xK d k (.ref o :: av) hp (fun y hp1 => (∃ v, y = .inl v ∧ xV (d + 1) M q L (v.toList ++ rest) hp1 Q) ∨ (∃ E, y = .inr E ∧ M.2.2.2.2.2.1 = [] ∧ Q (.inr E) hp1))) : xV (d + 1) M pc L st hp Q := by
  intro cl hl
  obtain ⟨hu, r, hr2⟩ := h
  obtain ⟨N', hN', hw⟩ := hk
  rw [hN] at hN'
  cases hN'
  rw [hr2]
  obtain ⟨c1, c2, c3, c4⟩ := hc
  have c3 := Nat.le_of_ble_eq_true c3
  have c4 := Nat.le_of_ble_eq_true c4
  have hlen : (Value.ref o :: av).reverse.length = N.2.2.1 := by rw [List.length_reverse, c1]; rfl
  have t1 : st.take N.2.2.1 = (Value.ref o :: av).reverse := by rw [hst, ← hlen, List.take_left]
  have t2 : st.drop N.2.2.1 = rest := by rw [hst, ← hlen, List.drop_left]
  have hrec : amRecv 0 N.2.2.2.2.2.2 hp (.ref o :: av) = true := by
    obtain ⟨⟨t3, vs⟩, g1, g2, -, -⟩ := bHk_at hH ho hT
    have g2 : t3 = t := g2
    subst g2
    unfold amRecv
    dsimp only
    rw [if_pos rfl, g1, c2]
    exact decide_eq_true ⟨rfl, h32⟩
  have hcall : amCall amGG 0 k cl st hp = some (.inr (.inr (.inr (k, .ref o :: av, rest)))) := by
    unfold amCall
    rw [hN]
    dsimp only
    rw [t1, t2, List.reverse_reverse, if_pos]
    refine ⟨by rw [hst, List.length_append]; omega, c3, ?_, c4⟩
    rw [hH.1, hl.1, hr, hrec]
    rfl
  have hdo : amDo amGG M none (.invokevirtual j) k 0 pc cl st hp = some (.inr (.inr (.inr (k, .ref o :: av, rest)))) := by
    simp only [amDo]
    rw [if_neg (by decide), if_neg (by decide)]
    exact hcall
  refine bWp_call (q := (pc, .invokevirtual j, k, 0)) hdo hN (bWp_mono hw (fun y hp1 hy => ?_))
  rcases hy with ⟨v, rfl, hy⟩ | ⟨E, rfl, h1, h2⟩
  · dsimp only
    rw [bUp_next hu (xI_suf hr2), ← e]
    exact hy cl hl
  · exact ⟨rfl, h1, h2⟩
end XT
def gPt (V : Nat) (a : Int) : Int := if 0 ≤ a ∧ a < (V : Int) then 0 else 1
def gTwo (V : Nat) (a b : Int) : Int := if 0 ≤ a ∧ a < (V : Int) ∧ 0 ≤ b ∧ b < (V : Int) then (if a = b then 2 else 0) else 1
def gSet (V : Nat) (a b c : Int) : Int := if 0 ≤ a ∧ a < (V : Int) ∧ 0 ≤ b ∧ b < (V : Int) ∧ 0 ≤ c ∧ c < (V : Int) then (if a = b ∨ b = c ∨ a = c then 2 else 0) else 1
def gTri (n : Nat) (t : Int) : Int := if 0 ≤ t ∧ t < (n : Int) then 0 else 1
theorem gPt_0 {V : Nat} {a : Int} : gPt V a = 0 ↔ 0 ≤ a ∧ a < (V : Int) := by
  unfold gPt
  split <;> omega
theorem gTwo_0 {V : Nat} {a b : Int} : gTwo V a b = 0 ↔ 0 ≤ a ∧ a < (V : Int) ∧ 0 ≤ b ∧ b < (V : Int) ∧ ¬ a = b := by
  unfold gTwo
  split
  · split <;> omega
  · omega
theorem gSet_0 {V : Nat} {a b c : Int} : gSet V a b c = 0 ↔ 0 ≤ a ∧ a < (V : Int) ∧ 0 ≤ b ∧ b < (V : Int) ∧ 0 ≤ c ∧ c < (V : Int) ∧ ¬ a = b ∧ ¬ b = c ∧ ¬ a = c := by
  unfold gSet
  split
  · split <;> omega
  · omega
theorem gTri_0 {n : Nat} {t : Int} : gTri n t = 0 ↔ 0 ≤ t ∧ t < (n : Int) := by
  unfold gTri
  split <;> omega
theorem u176 : bUp 0 am_m176.1 = true := by decide +kernel
theorem u177 : bUp 0 am_m177.1 = true := by decide +kernel
theorem u178 : bUp 0 am_m178.1 = true := by decide +kernel
theorem u179 : bUp 0 am_m179.1 = true := by decide +kernel
theorem k_rq1 {d V : Nat} {hp : amH} {R : xQ} {a : Int32} (hH : bHk 84 bTT hp) (hV : rN hp 3 0 = (V : Int)) (h0 : gPt V a.toInt = 0 → R (.inl none) hp) (h1 : gPt V a.toInt = 1 → R (.inr 1) hp) : xK (d + 1) 176 [.ref 0, .int a] hp R := by
  refine xin (M := am_m176) rfl rfl rfl ?_
  refine xald 1 ⟨u176, _, rfl⟩ rfl rfl ?_
  refine xgetD 4 (3) hH ⟨u176, _, rfl⟩ rfl (by decide) (by decide) rfl rfl (by decide) ?_
  refine xild 5 ⟨u176, _, rfl⟩ rfl rfl ?_
  refine xcallC 8 (o := 3) [.int _] [] hH ⟨u176, _, rfl⟩ rfl rfl (by decide) rfl (by decide) rfl ⟨rfl, rfl, rfl, rfl⟩ rfl (k_isp (o := 3) (Or.inl rfl) hH (fun z5 h5 => ⟨_, rfl, ?_⟩))
  refine xif_ne 11 ⟨u176, _, rfl⟩ rfl (fun c8 => ?_) (fun c8 => ?_)
  · exact xretV ⟨u176, _, rfl⟩ rfl (h0 (gPt_0.mpr (by omega)))
  · exact xthr ⟨u176, _, rfl⟩ (by decide) rfl (by decide) (h1 (by unfold gPt; rw [if_neg (by omega)]))
theorem k_rq2 {d V : Nat} {hp : amH} {R : xQ} {a b : Int32} (hH : bHk 84 bTT hp) (hV : rN hp 3 0 = (V : Int)) (h0 : gTwo V a.toInt b.toInt = 0 → R (.inl none) hp) (h1 : gTwo V a.toInt b.toInt = 1 → R (.inr 1) hp) (h2 : gTwo V a.toInt b.toInt = 2 → R (.inr 0) hp) : xK (d + 2) 177 [.ref 0, .int a, .int b] hp R := by
  refine xin (M := am_m177) rfl rfl rfl ?_
  refine xald 1 ⟨u177, _, rfl⟩ rfl rfl ?_
  refine xild 2 ⟨u177, _, rfl⟩ rfl rfl ?_
  refine xcallT 5 (o := 0) [.int _] [] hH ⟨u177, _, rfl⟩ rfl rfl (by decide) rfl (by decide) rfl ⟨rfl, rfl, rfl, rfl⟩ rfl (k_rq1 hH hV (fun g2 => Or.inl ⟨_, rfl, ?_⟩) (fun g2 => Or.inr ⟨_, rfl, rfl, h1 (by unfold gTwo; rw [if_neg (fun z => by have := gPt_0.mpr ⟨z.1, z.2.1⟩; omega)])⟩))
  have k2 := gPt_0.mp g2
  refine xald 6 ⟨u177, _, rfl⟩ rfl rfl ?_
  refine xild 7 ⟨u177, _, rfl⟩ rfl rfl ?_
  refine xcallT 10 (o := 0) [.int _] [] hH ⟨u177, _, rfl⟩ rfl rfl (by decide) rfl (by decide) rfl ⟨rfl, rfl, rfl, rfl⟩ rfl (k_rq1 hH hV (fun g7 => Or.inl ⟨_, rfl, ?_⟩) (fun g7 => Or.inr ⟨_, rfl, rfl, h1 (by unfold gTwo; rw [if_neg (fun z => by have := gPt_0.mpr ⟨z.2.2.1, z.2.2.2⟩; omega)])⟩))
  have k7 := gPt_0.mp g7
  refine xild 11 ⟨u177, _, rfl⟩ rfl rfl ?_
  refine xild 12 ⟨u177, _, rfl⟩ rfl rfl ?_
  refine xcmp_ne 15 ⟨u177, _, rfl⟩ rfl (fun c12 => ?_) (fun c12 => ?_)
  · exact xretV ⟨u177, _, rfl⟩ rfl (h0 (gTwo_0.mpr (by omega)))
  · exact xthr ⟨u177, _, rfl⟩ (by decide) rfl (by decide) (h2 (by unfold gTwo; rw [if_pos (by omega), if_pos (by omega)]))
theorem k_rq3 {d V : Nat} {hp : amH} {R : xQ} {a b c : Int32} (hH : bHk 84 bTT hp) (hV : rN hp 3 0 = (V : Int)) (h0 : gSet V a.toInt b.toInt c.toInt = 0 → R (.inl none) hp) (h1 : gSet V a.toInt b.toInt c.toInt = 1 → R (.inr 1) hp) (h2 : gSet V a.toInt b.toInt c.toInt = 2 → R (.inr 0) hp) : xK (d + 2) 178 [.ref 0, .int a, .int b, .int c] hp R := by
  refine xin (M := am_m178) rfl rfl rfl ?_
  refine xald 1 ⟨u178, _, rfl⟩ rfl rfl ?_
  refine xild 2 ⟨u178, _, rfl⟩ rfl rfl ?_
  refine xcallT 5 (o := 0) [.int _] [] hH ⟨u178, _, rfl⟩ rfl rfl (by decide) rfl (by decide) rfl ⟨rfl, rfl, rfl, rfl⟩ rfl (k_rq1 hH hV (fun g2 => Or.inl ⟨_, rfl, ?_⟩) (fun g2 => Or.inr ⟨_, rfl, rfl, h1 (by unfold gSet; rw [if_neg (fun z => by have := gPt_0.mpr ⟨z.1, z.2.1⟩; omega)])⟩))
  have k2 := gPt_0.mp g2
  refine xald 6 ⟨u178, _, rfl⟩ rfl rfl ?_
  refine xild 7 ⟨u178, _, rfl⟩ rfl rfl ?_
  refine xcallT 10 (o := 0) [.int _] [] hH ⟨u178, _, rfl⟩ rfl rfl (by decide) rfl (by decide) rfl ⟨rfl, rfl, rfl, rfl⟩ rfl (k_rq1 hH hV (fun g7 => Or.inl ⟨_, rfl, ?_⟩) (fun g7 => Or.inr ⟨_, rfl, rfl, h1 (by unfold gSet; rw [if_neg (fun z => by have := gPt_0.mpr ⟨z.2.2.1, z.2.2.2.1⟩; omega)])⟩))
  have k7 := gPt_0.mp g7
  refine xald 11 ⟨u178, _, rfl⟩ rfl rfl ?_
  refine xild 12 ⟨u178, _, rfl⟩ rfl rfl ?_
  refine xcallT 15 (o := 0) [.int _] [] hH ⟨u178, _, rfl⟩ rfl rfl (by decide) rfl (by decide) rfl ⟨rfl, rfl, rfl, rfl⟩ rfl (k_rq1 hH hV (fun g12 => Or.inl ⟨_, rfl, ?_⟩) (fun g12 => Or.inr ⟨_, rfl, rfl, h1 (by unfold gSet; rw [if_neg (fun z => by have := gPt_0.mpr ⟨z.2.2.2.2.1, z.2.2.2.2.2⟩; omega)])⟩))
  have k12 := gPt_0.mp g12
  refine xild 16 ⟨u178, _, rfl⟩ rfl rfl ?_
  refine xild 17 ⟨u178, _, rfl⟩ rfl rfl ?_
  refine xcmp_eq 20 ⟨u178, _, rfl⟩ rfl (fun c17 => ?_) (fun c17 => ?_)
  · exact xthr ⟨u178, _, rfl⟩ (by decide) rfl (by decide) (h2 (by unfold gSet; rw [if_pos (by omega), if_pos (by omega)]))
  · refine xild 21 ⟨u178, _, rfl⟩ rfl rfl ?_
    refine xild 22 ⟨u178, _, rfl⟩ rfl rfl ?_
    refine xcmp_eq 25 ⟨u178, _, rfl⟩ rfl (fun c22 => ?_) (fun c22 => ?_)
    · exact xthr ⟨u178, _, rfl⟩ (by decide) rfl (by decide) (h2 (by unfold gSet; rw [if_pos (by omega), if_pos (by omega)]))
    · refine xild 26 ⟨u178, _, rfl⟩ rfl rfl ?_
      refine xild 27 ⟨u178, _, rfl⟩ rfl rfl ?_
      refine xcmp_ne 30 ⟨u178, _, rfl⟩ rfl (fun c27 => ?_) (fun c27 => ?_)
      · exact xretV ⟨u178, _, rfl⟩ rfl (h0 (gSet_0.mpr (by omega)))
      · exact xthr ⟨u178, _, rfl⟩ (by decide) rfl (by decide) (h2 (by unfold gSet; rw [if_pos (by omega), if_pos (by omega)]))
theorem k_rqt {d n : Nat} {hp : amH} {R : xQ} {t : Int32} (hH : bHk 84 bTT hp) (hn : rN hp 3 1 = (n : Int)) (h0 : gTri n t.toInt = 0 → R (.inl none) hp) (h1 : gTri n t.toInt = 1 → R (.inr 1) hp) : xK d 179 [.ref 0, .int t] hp R := by
  refine xin (M := am_m179) rfl rfl rfl ?_
  refine xild 1 ⟨u179, _, rfl⟩ rfl rfl ?_
  refine xif_lt 4 ⟨u179, _, rfl⟩ rfl (fun c1 => ?_) (fun c1 => ?_)
  · exact xthr ⟨u179, _, rfl⟩ (by decide) rfl (by decide) (h1 (by unfold gTri; rw [if_neg (by omega)]))
  · refine xild 5 ⟨u179, _, rfl⟩ rfl rfl ?_
    refine xald 6 ⟨u179, _, rfl⟩ rfl rfl ?_
    refine xgetD 9 (3) hH ⟨u179, _, rfl⟩ rfl (by decide) (by decide) rfl rfl (by decide) ?_
    refine xgetC 12 hH ⟨u179, _, rfl⟩ rfl (by decide) (by decide) rfl rfl (by decide) (fun z9 h9 => ?_)
    refine xcmp_lt 15 ⟨u179, _, rfl⟩ rfl (fun c12 => ?_) (fun c12 => ?_)
    · exact xretV ⟨u179, _, rfl⟩ rfl (h0 (gTri_0.mpr (by omega)))
    · exact xthr ⟨u179, _, rfl⟩ (by decide) rfl (by decide) (h1 (by unfold gTri; rw [if_neg (by omega)]))
theorem k_gp1 {d V : Nat} {hp : amH} {R : xQ} {p : Int32} (hH : bHk 84 bTT hp) (hV : rN hp 67 0 = (V : Int)) (h15 : V ≤ 15)
    (hR : ∀ (z : Int32) hp1, bHk 84 bTT hp1 → bFr [(66, 7)] hp hp1 → rN hp1 66 7 = gPt V p.toInt → ((gPt V p.toInt = 0 ∧ z.toInt = 0) ∨ (gPt V p.toInt = 1 ∧ z.toInt = 1)) → R (.inl (some (.int z))) hp1) : xK (d + 1) 254 [.ref 66, .int p] hp R := by
  refine xin (M := am_m254) rfl rfl rfl ?_
  refine xald 1 ⟨u254, _, rfl⟩ rfl rfl ?_
  refine xcst 2 (0) ⟨u254, _, rfl⟩ rfl (by decide) (fun z1 h1 => ?_)
  refine xputI 5 hH ⟨u254, _, rfl⟩ rfl rfl ⟨rfl, rfl⟩ (by omega) (by omega) (fun hp2 hH2 U2 => ?_)
  have s2 := U2.1
  have n2_67_0 : rN hp2 (67) 0 = rN hp (67) 0 := rU_ne U2 (by omega)
  refine xald 6 ⟨u254, _, rfl⟩ rfl rfl ?_
  refine xild 7 ⟨u254, _, rfl⟩ rfl rfl ?_
  refine xcst 8 (0) ⟨u254, _, rfl⟩ rfl (by decide) (fun z7 h7 => ?_)
  refine xald 9 ⟨u254, _, rfl⟩ rfl rfl ?_
  refine xcall 12 [.ref 66] [.int _, .int _, .ref 66] hH2 ⟨u254, _, rfl⟩ rfl rfl rfl rfl rfl (k_points hH2 (fun z9 h9 => ⟨_, rfl, ?_⟩))
  refine xcst 13 (1) ⟨u254, _, rfl⟩ rfl (by decide) (fun z12 h12 => ?_)
  refine xsub 14 _ ⟨u254, _, rfl⟩ rfl rfl (by omega) (by omega) (fun z13 h13 => ?_)
  refine xcallS 17 [.int _, .int _, .int _] [.ref 66] hH2 ⟨u254, _, rfl⟩ rfl rfl rfl rfl rfl (k_inr (fun z14 h14 => ⟨_, rfl, ?_⟩))
  refine xif_ne 20 ⟨u254, _, rfl⟩ rfl (fun c17 => ?_) (fun c17 => ?_)
  · refine xcst 25 (0) ⟨u254, _, rfl⟩ rfl (by decide) (fun z24 h24 => ?_)
    refine xcst 26 (1) ⟨u254, _, rfl⟩ rfl (by decide) (fun z25 h25 => ?_)
    refine xcall 29 [.ref 66, .int _, .int _] [] hH2 ⟨u254, _, rfl⟩ rfl rfl rfl rfl rfl (k_failsE hH2 (by omega) (fun hp26 hH26 V26 => ⟨_, rfl, ?_⟩))
    rcases V26 with ⟨a, e⟩ | ⟨a, U⟩
    · first
      | omega
      | (subst e
         have g : gPt V p.toInt = 0 := gPt_0.mpr (by omega)
         exact xretB ⟨u254, _, rfl⟩ rfl (by omega) (hR _ _ hH26 (rU_fr U2 rfl) (by rw [g, U2.1]; exact h1) (Or.inl ⟨g, a⟩)))
    · first
      | omega
      | (have g : gPt V p.toInt = 1 := by unfold gPt; rw [if_neg (by omega)]
         exact xretB ⟨u254, _, rfl⟩ rfl (by omega) (hR _ _ hH26 ((rU_fr U2 rfl).trans (rU_fr U rfl)) (by rw [g, U.1]; exact h25) (Or.inr ⟨g, a⟩)))
  · refine xcst 21 (1) ⟨u254, _, rfl⟩ rfl (by decide) (fun z20 h20 => ?_)
    refine xgoto ⟨u254, _, rfl⟩ ?_
    refine xcst 26 (1) ⟨u254, _, rfl⟩ rfl (by decide) (fun z25 h25 => ?_)
    refine xcall 29 [.ref 66, .int _, .int _] [] hH2 ⟨u254, _, rfl⟩ rfl rfl rfl rfl rfl (k_failsE hH2 (by omega) (fun hp26 hH26 V26 => ⟨_, rfl, ?_⟩))
    rcases V26 with ⟨a, e⟩ | ⟨a, U⟩
    · first
      | omega
      | (subst e
         have g : gPt V p.toInt = 0 := gPt_0.mpr (by omega)
         exact xretB ⟨u254, _, rfl⟩ rfl (by omega) (hR _ _ hH26 (rU_fr U2 rfl) (by rw [g, U2.1]; exact h1) (Or.inl ⟨g, a⟩)))
    · first
      | omega
      | (have g : gPt V p.toInt = 1 := by unfold gPt; rw [if_neg (by omega)]
         exact xretB ⟨u254, _, rfl⟩ rfl (by omega) (hR _ _ hH26 ((rU_fr U2 rfl).trans (rU_fr U rfl)) (by rw [g, U.1]; exact h25) (Or.inr ⟨g, a⟩)))
theorem k_gp2 {d V : Nat} {hp : amH} {R : xQ} {a b : Int32} (hH : bHk 84 bTT hp) (hV : rN hp 67 0 = (V : Int)) (h15 : V ≤ 15)
    (hR : ∀ (z : Int32) hp1, bHk 84 bTT hp1 → bFr [(66, 7)] hp hp1 → rN hp1 66 7 = gTwo V a.toInt b.toInt → ((gTwo V a.toInt b.toInt = 0 ∧ z.toInt = 0) ∨ (¬ gTwo V a.toInt b.toInt = 0 ∧ z.toInt = 1)) → R (.inl (some (.int z))) hp1) : xK (d + 2) 255 [.ref 66, .int a, .int b] hp R := by
  refine xin (M := am_m255) rfl rfl rfl ?_
  refine xald 1 ⟨u255, _, rfl⟩ rfl rfl ?_
  refine xild 2 ⟨u255, _, rfl⟩ rfl rfl ?_
  refine xcall 5 [.ref 66, .int _] [] hH ⟨u255, _, rfl⟩ rfl rfl rfl rfl rfl (k_gp1 hH (V := V) hV h15 (fun z2 hp2 hH2 f2 t2 o2 => ⟨_, rfl, ?_⟩))
  have F2 : bFr [(66, 7)] hp hp2 := f2
  refine xif_ne 8 ⟨u255, _, rfl⟩ rfl (fun c5 => ?_) (fun c5 => ?_)
  · refine xcst 35 (1) ⟨u255, _, rfl⟩ rfl (by decide) (fun z34 h34 => ?_)
    refine xgoto ⟨u255, _, rfl⟩ ?_
    have g : gTwo V a.toInt b.toInt = 1 := by unfold gTwo; rw [if_neg (fun z => by have : gPt V a.toInt = 0 := gPt_0.mpr ⟨z.1, z.2.1⟩; omega)]
    exact xretB ⟨u255, _, rfl⟩ rfl (by omega) (hR _ _ hH2 F2 (by rw [g]; omega) (Or.inr ⟨by omega, by omega⟩))
  · refine xald 9 ⟨u255, _, rfl⟩ rfl rfl ?_
    refine xild 10 ⟨u255, _, rfl⟩ rfl rfl ?_
    refine xcall 13 [.ref 66, .int _] [] hH2 ⟨u255, _, rfl⟩ rfl rfl rfl rfl rfl (k_gp1 hH2 (V := V) (by rw [r_fr F2 rfl]; exact hV) h15 (fun z10 hp10 hH10 f10 t10 o10 => ⟨_, rfl, ?_⟩))
    have F10 : bFr [(66, 7)] hp hp10 := F2.trans f10
    refine xif_ne 16 ⟨u255, _, rfl⟩ rfl (fun c13 => ?_) (fun c13 => ?_)
    · refine xcst 35 (1) ⟨u255, _, rfl⟩ rfl (by decide) (fun z34 h34 => ?_)
      refine xgoto ⟨u255, _, rfl⟩ ?_
      have g : gTwo V a.toInt b.toInt = 1 := by unfold gTwo; rw [if_neg (fun z => by have : gPt V b.toInt = 0 := gPt_0.mpr ⟨z.2.2.1, z.2.2.2⟩; omega)]
      exact xretB ⟨u255, _, rfl⟩ rfl (by omega) (hR _ _ hH10 F10 (by rw [g]; omega) (Or.inr ⟨by omega, by omega⟩))
    · refine xald 17 ⟨u255, _, rfl⟩ rfl rfl ?_
      refine xild 18 ⟨u255, _, rfl⟩ rfl rfl ?_
      refine xild 19 ⟨u255, _, rfl⟩ rfl rfl ?_
      refine xcmp_ne 22 ⟨u255, _, rfl⟩ rfl (fun c19 => ?_) (fun c19 => ?_)
      · refine xcst 27 (0) ⟨u255, _, rfl⟩ rfl (by decide) (fun z26 h26 => ?_)
        refine xcst 28 (2) ⟨u255, _, rfl⟩ rfl (by decide) (fun z27 h27 => ?_)
        refine xcall 31 [.ref 66, .int _, .int _] [] hH10 ⟨u255, _, rfl⟩ rfl rfl rfl rfl rfl (k_failsE hH10 (by omega) (fun hp28 hH28 V28 => ⟨_, rfl, ?_⟩))
        refine xif_eq 34 ⟨u255, _, rfl⟩ rfl (fun c31 => ?_) (fun c31 => ?_)
        · refine xcst 39 (0) ⟨u255, _, rfl⟩ rfl (by decide) (fun z38 h38 => ?_)
          rcases V28 with ⟨a9, e⟩ | ⟨a9, U⟩
          · first
            | (exfalso; omega)
            | (subst e
               have k2 := gPt_0.mp (show gPt V a.toInt = 0 by omega)
               have k10 := gPt_0.mp (show gPt V b.toInt = 0 by omega)
               have g : gTwo V a.toInt b.toInt = 0 := gTwo_0.mpr (by omega)
               exact xretB ⟨u255, _, rfl⟩ rfl (by omega) (hR _ _ hH28 F10 (by rw [g]; omega) (Or.inl ⟨g, by omega⟩)))
          · first
            | (exfalso; omega)
            | (
               have k2 := gPt_0.mp (show gPt V a.toInt = 0 by omega)
               have k10 := gPt_0.mp (show gPt V b.toInt = 0 by omega)
               have g : gTwo V a.toInt b.toInt = 2 := by unfold gTwo; rw [if_pos (by omega), if_pos (by omega)]
               exact xretB ⟨u255, _, rfl⟩ rfl (by omega) (hR _ _ hH28 (F10.trans (rU_fr U rfl)) (by rw [g, U.1]; omega) (Or.inr ⟨by omega, by omega⟩)))
        · refine xcst 35 (1) ⟨u255, _, rfl⟩ rfl (by decide) (fun z34 h34 => ?_)
          refine xgoto ⟨u255, _, rfl⟩ ?_
          rcases V28 with ⟨a9, e⟩ | ⟨a9, U⟩
          · first
            | (exfalso; omega)
            | (subst e
               have k2 := gPt_0.mp (show gPt V a.toInt = 0 by omega)
               have k10 := gPt_0.mp (show gPt V b.toInt = 0 by omega)
               have g : gTwo V a.toInt b.toInt = 0 := gTwo_0.mpr (by omega)
               exact xretB ⟨u255, _, rfl⟩ rfl (by omega) (hR _ _ hH28 F10 (by rw [g]; omega) (Or.inl ⟨g, by omega⟩)))
          · first
            | (exfalso; omega)
            | (
               have k2 := gPt_0.mp (show gPt V a.toInt = 0 by omega)
               have k10 := gPt_0.mp (show gPt V b.toInt = 0 by omega)
               have g : gTwo V a.toInt b.toInt = 2 := by unfold gTwo; rw [if_pos (by omega), if_pos (by omega)]
               exact xretB ⟨u255, _, rfl⟩ rfl (by omega) (hR _ _ hH28 (F10.trans (rU_fr U rfl)) (by rw [g, U.1]; omega) (Or.inr ⟨by omega, by omega⟩)))
      · refine xcst 23 (1) ⟨u255, _, rfl⟩ rfl (by decide) (fun z22 h22 => ?_)
        refine xgoto ⟨u255, _, rfl⟩ ?_
        refine xcst 28 (2) ⟨u255, _, rfl⟩ rfl (by decide) (fun z27 h27 => ?_)
        refine xcall 31 [.ref 66, .int _, .int _] [] hH10 ⟨u255, _, rfl⟩ rfl rfl rfl rfl rfl (k_failsE hH10 (by omega) (fun hp28 hH28 V28 => ⟨_, rfl, ?_⟩))
        refine xif_eq 34 ⟨u255, _, rfl⟩ rfl (fun c31 => ?_) (fun c31 => ?_)
        · refine xcst 39 (0) ⟨u255, _, rfl⟩ rfl (by decide) (fun z38 h38 => ?_)
          rcases V28 with ⟨a9, e⟩ | ⟨a9, U⟩
          · first
            | (exfalso; omega)
            | (subst e
               have k2 := gPt_0.mp (show gPt V a.toInt = 0 by omega)
               have k10 := gPt_0.mp (show gPt V b.toInt = 0 by omega)
               have g : gTwo V a.toInt b.toInt = 0 := gTwo_0.mpr (by omega)
               exact xretB ⟨u255, _, rfl⟩ rfl (by omega) (hR _ _ hH28 F10 (by rw [g]; omega) (Or.inl ⟨g, by omega⟩)))
          · first
            | (exfalso; omega)
            | (
               have k2 := gPt_0.mp (show gPt V a.toInt = 0 by omega)
               have k10 := gPt_0.mp (show gPt V b.toInt = 0 by omega)
               have g : gTwo V a.toInt b.toInt = 2 := by unfold gTwo; rw [if_pos (by omega), if_pos (by omega)]
               exact xretB ⟨u255, _, rfl⟩ rfl (by omega) (hR _ _ hH28 (F10.trans (rU_fr U rfl)) (by rw [g, U.1]; omega) (Or.inr ⟨by omega, by omega⟩)))
        · refine xcst 35 (1) ⟨u255, _, rfl⟩ rfl (by decide) (fun z34 h34 => ?_)
          refine xgoto ⟨u255, _, rfl⟩ ?_
          rcases V28 with ⟨a9, e⟩ | ⟨a9, U⟩
          · first
            | (exfalso; omega)
            | (subst e
               have k2 := gPt_0.mp (show gPt V a.toInt = 0 by omega)
               have k10 := gPt_0.mp (show gPt V b.toInt = 0 by omega)
               have g : gTwo V a.toInt b.toInt = 0 := gTwo_0.mpr (by omega)
               exact xretB ⟨u255, _, rfl⟩ rfl (by omega) (hR _ _ hH28 F10 (by rw [g]; omega) (Or.inl ⟨g, by omega⟩)))
          · first
            | (exfalso; omega)
            | (
               have k2 := gPt_0.mp (show gPt V a.toInt = 0 by omega)
               have k10 := gPt_0.mp (show gPt V b.toInt = 0 by omega)
               have g : gTwo V a.toInt b.toInt = 2 := by unfold gTwo; rw [if_pos (by omega), if_pos (by omega)]
               exact xretB ⟨u255, _, rfl⟩ rfl (by omega) (hR _ _ hH28 (F10.trans (rU_fr U rfl)) (by rw [g, U.1]; omega) (Or.inr ⟨by omega, by omega⟩)))
theorem k_gp3 {d V : Nat} {hp : amH} {R : xQ} {a b c : Int32} (hH : bHk 84 bTT hp) (hV : rN hp 67 0 = (V : Int)) (h15 : V ≤ 15)
    (hR : ∀ (z : Int32) hp1, bHk 84 bTT hp1 → bFr [(66, 7)] hp hp1 → rN hp1 66 7 = gSet V a.toInt b.toInt c.toInt → ((gSet V a.toInt b.toInt c.toInt = 0 ∧ z.toInt = 0) ∨ (¬ gSet V a.toInt b.toInt c.toInt = 0 ∧ z.toInt = 1)) → R (.inl (some (.int z))) hp1) : xK (d + 2) 256 [.ref 66, .int a, .int b, .int c] hp R := by
  refine xin (M := am_m256) rfl rfl rfl ?_
  refine xald 1 ⟨u256, _, rfl⟩ rfl rfl ?_
  refine xild 2 ⟨u256, _, rfl⟩ rfl rfl ?_
  refine xcall 5 [.ref 66, .int _] [] hH ⟨u256, _, rfl⟩ rfl rfl rfl rfl rfl (k_gp1 hH (V := V) hV h15 (fun z2 hp2 hH2 f2 t2 o2 => ⟨_, rfl, ?_⟩))
  have F2 : bFr [(66, 7)] hp hp2 := f2
  refine xif_ne 8 ⟨u256, _, rfl⟩ rfl (fun c5 => ?_) (fun c5 => ?_)
  · refine xcst 53 (1) ⟨u256, _, rfl⟩ rfl (by decide) (fun z52 h52 => ?_)
    refine xgoto ⟨u256, _, rfl⟩ ?_
    have g : gSet V a.toInt b.toInt c.toInt = 1 := by unfold gSet; rw [if_neg (fun z => by have : gPt V a.toInt = 0 := gPt_0.mpr ⟨z.1, z.2.1⟩; omega)]
    exact xretB ⟨u256, _, rfl⟩ rfl (by omega) (hR _ _ hH2 F2 (by rw [g]; omega) (Or.inr ⟨by omega, by omega⟩))
  · refine xald 9 ⟨u256, _, rfl⟩ rfl rfl ?_
    refine xild 10 ⟨u256, _, rfl⟩ rfl rfl ?_
    refine xcall 13 [.ref 66, .int _] [] hH2 ⟨u256, _, rfl⟩ rfl rfl rfl rfl rfl (k_gp1 hH2 (V := V) (by rw [r_fr F2 rfl]; exact hV) h15 (fun z10 hp10 hH10 f10 t10 o10 => ⟨_, rfl, ?_⟩))
    have F10 : bFr [(66, 7)] hp hp10 := F2.trans f10
    refine xif_ne 16 ⟨u256, _, rfl⟩ rfl (fun c13 => ?_) (fun c13 => ?_)
    · refine xcst 53 (1) ⟨u256, _, rfl⟩ rfl (by decide) (fun z52 h52 => ?_)
      refine xgoto ⟨u256, _, rfl⟩ ?_
      have g : gSet V a.toInt b.toInt c.toInt = 1 := by unfold gSet; rw [if_neg (fun z => by have : gPt V b.toInt = 0 := gPt_0.mpr ⟨z.2.2.1, z.2.2.2.1⟩; omega)]
      exact xretB ⟨u256, _, rfl⟩ rfl (by omega) (hR _ _ hH10 F10 (by rw [g]; omega) (Or.inr ⟨by omega, by omega⟩))
    · refine xald 17 ⟨u256, _, rfl⟩ rfl rfl ?_
      refine xild 18 ⟨u256, _, rfl⟩ rfl rfl ?_
      refine xcall 21 [.ref 66, .int _] [] hH10 ⟨u256, _, rfl⟩ rfl rfl rfl rfl rfl (k_gp1 hH10 (V := V) (by rw [r_fr F10 rfl]; exact hV) h15 (fun z18 hp18 hH18 f18 t18 o18 => ⟨_, rfl, ?_⟩))
      have F18 : bFr [(66, 7)] hp hp18 := F10.trans f18
      refine xif_ne 24 ⟨u256, _, rfl⟩ rfl (fun c21 => ?_) (fun c21 => ?_)
      · refine xcst 53 (1) ⟨u256, _, rfl⟩ rfl (by decide) (fun z52 h52 => ?_)
        refine xgoto ⟨u256, _, rfl⟩ ?_
        have g : gSet V a.toInt b.toInt c.toInt = 1 := by unfold gSet; rw [if_neg (fun z => by have : gPt V c.toInt = 0 := gPt_0.mpr ⟨z.2.2.2.2.1, z.2.2.2.2.2⟩; omega)]
        exact xretB ⟨u256, _, rfl⟩ rfl (by omega) (hR _ _ hH18 F18 (by rw [g]; omega) (Or.inr ⟨by omega, by omega⟩))
      · refine xald 25 ⟨u256, _, rfl⟩ rfl rfl ?_
        refine xild 26 ⟨u256, _, rfl⟩ rfl rfl ?_
        refine xild 27 ⟨u256, _, rfl⟩ rfl rfl ?_
        refine xcmp_eq 30 ⟨u256, _, rfl⟩ rfl (fun c27 => ?_) (fun c27 => ?_)
        · refine xcst 41 (1) ⟨u256, _, rfl⟩ rfl (by decide) (fun z40 h40 => ?_)
          refine xgoto ⟨u256, _, rfl⟩ ?_
          refine xcst 46 (2) ⟨u256, _, rfl⟩ rfl (by decide) (fun z45 h45 => ?_)
          refine xcall 49 [.ref 66, .int _, .int _] [] hH18 ⟨u256, _, rfl⟩ rfl rfl rfl rfl rfl (k_failsE hH18 (by omega) (fun hp46 hH46 V46 => ⟨_, rfl, ?_⟩))
          refine xif_eq 52 ⟨u256, _, rfl⟩ rfl (fun c49 => ?_) (fun c49 => ?_)
          · refine xcst 57 (0) ⟨u256, _, rfl⟩ rfl (by decide) (fun z56 h56 => ?_)
            rcases V46 with ⟨a9, e⟩ | ⟨a9, U⟩
            · first
              | (exfalso; omega)
              | (subst e
                 have k2 := gPt_0.mp (show gPt V a.toInt = 0 by omega)
                 have k10 := gPt_0.mp (show gPt V b.toInt = 0 by omega)
                 have k18 := gPt_0.mp (show gPt V c.toInt = 0 by omega)
                 have g : gSet V a.toInt b.toInt c.toInt = 0 := gSet_0.mpr (by omega)
                 exact xretB ⟨u256, _, rfl⟩ rfl (by omega) (hR _ _ hH46 F18 (by rw [g]; omega) (Or.inl ⟨g, by omega⟩)))
            · first
              | (exfalso; omega)
              | (
                 have k2 := gPt_0.mp (show gPt V a.toInt = 0 by omega)
                 have k10 := gPt_0.mp (show gPt V b.toInt = 0 by omega)
                 have k18 := gPt_0.mp (show gPt V c.toInt = 0 by omega)
                 have g : gSet V a.toInt b.toInt c.toInt = 2 := by unfold gSet; rw [if_pos (by omega), if_pos (by omega)]
                 exact xretB ⟨u256, _, rfl⟩ rfl (by omega) (hR _ _ hH46 (F18.trans (rU_fr U rfl)) (by rw [g, U.1]; omega) (Or.inr ⟨by omega, by omega⟩)))
          · refine xcst 53 (1) ⟨u256, _, rfl⟩ rfl (by decide) (fun z52 h52 => ?_)
            refine xgoto ⟨u256, _, rfl⟩ ?_
            rcases V46 with ⟨a9, e⟩ | ⟨a9, U⟩
            · first
              | (exfalso; omega)
              | (subst e
                 have k2 := gPt_0.mp (show gPt V a.toInt = 0 by omega)
                 have k10 := gPt_0.mp (show gPt V b.toInt = 0 by omega)
                 have k18 := gPt_0.mp (show gPt V c.toInt = 0 by omega)
                 have g : gSet V a.toInt b.toInt c.toInt = 0 := gSet_0.mpr (by omega)
                 exact xretB ⟨u256, _, rfl⟩ rfl (by omega) (hR _ _ hH46 F18 (by rw [g]; omega) (Or.inl ⟨g, by omega⟩)))
            · first
              | (exfalso; omega)
              | (
                 have k2 := gPt_0.mp (show gPt V a.toInt = 0 by omega)
                 have k10 := gPt_0.mp (show gPt V b.toInt = 0 by omega)
                 have k18 := gPt_0.mp (show gPt V c.toInt = 0 by omega)
                 have g : gSet V a.toInt b.toInt c.toInt = 2 := by unfold gSet; rw [if_pos (by omega), if_pos (by omega)]
                 exact xretB ⟨u256, _, rfl⟩ rfl (by omega) (hR _ _ hH46 (F18.trans (rU_fr U rfl)) (by rw [g, U.1]; omega) (Or.inr ⟨by omega, by omega⟩)))
        · refine xild 31 ⟨u256, _, rfl⟩ rfl rfl ?_
          refine xild 32 ⟨u256, _, rfl⟩ rfl rfl ?_
          refine xcmp_eq 35 ⟨u256, _, rfl⟩ rfl (fun c32 => ?_) (fun c32 => ?_)
          · refine xcst 41 (1) ⟨u256, _, rfl⟩ rfl (by decide) (fun z40 h40 => ?_)
            refine xgoto ⟨u256, _, rfl⟩ ?_
            refine xcst 46 (2) ⟨u256, _, rfl⟩ rfl (by decide) (fun z45 h45 => ?_)
            refine xcall 49 [.ref 66, .int _, .int _] [] hH18 ⟨u256, _, rfl⟩ rfl rfl rfl rfl rfl (k_failsE hH18 (by omega) (fun hp46 hH46 V46 => ⟨_, rfl, ?_⟩))
            refine xif_eq 52 ⟨u256, _, rfl⟩ rfl (fun c49 => ?_) (fun c49 => ?_)
            · refine xcst 57 (0) ⟨u256, _, rfl⟩ rfl (by decide) (fun z56 h56 => ?_)
              rcases V46 with ⟨a9, e⟩ | ⟨a9, U⟩
              · first
                | (exfalso; omega)
                | (subst e
                   have k2 := gPt_0.mp (show gPt V a.toInt = 0 by omega)
                   have k10 := gPt_0.mp (show gPt V b.toInt = 0 by omega)
                   have k18 := gPt_0.mp (show gPt V c.toInt = 0 by omega)
                   have g : gSet V a.toInt b.toInt c.toInt = 0 := gSet_0.mpr (by omega)
                   exact xretB ⟨u256, _, rfl⟩ rfl (by omega) (hR _ _ hH46 F18 (by rw [g]; omega) (Or.inl ⟨g, by omega⟩)))
              · first
                | (exfalso; omega)
                | (
                   have k2 := gPt_0.mp (show gPt V a.toInt = 0 by omega)
                   have k10 := gPt_0.mp (show gPt V b.toInt = 0 by omega)
                   have k18 := gPt_0.mp (show gPt V c.toInt = 0 by omega)
                   have g : gSet V a.toInt b.toInt c.toInt = 2 := by unfold gSet; rw [if_pos (by omega), if_pos (by omega)]
                   exact xretB ⟨u256, _, rfl⟩ rfl (by omega) (hR _ _ hH46 (F18.trans (rU_fr U rfl)) (by rw [g, U.1]; omega) (Or.inr ⟨by omega, by omega⟩)))
            · refine xcst 53 (1) ⟨u256, _, rfl⟩ rfl (by decide) (fun z52 h52 => ?_)
              refine xgoto ⟨u256, _, rfl⟩ ?_
              rcases V46 with ⟨a9, e⟩ | ⟨a9, U⟩
              · first
                | (exfalso; omega)
                | (subst e
                   have k2 := gPt_0.mp (show gPt V a.toInt = 0 by omega)
                   have k10 := gPt_0.mp (show gPt V b.toInt = 0 by omega)
                   have k18 := gPt_0.mp (show gPt V c.toInt = 0 by omega)
                   have g : gSet V a.toInt b.toInt c.toInt = 0 := gSet_0.mpr (by omega)
                   exact xretB ⟨u256, _, rfl⟩ rfl (by omega) (hR _ _ hH46 F18 (by rw [g]; omega) (Or.inl ⟨g, by omega⟩)))
              · first
                | (exfalso; omega)
                | (
                   have k2 := gPt_0.mp (show gPt V a.toInt = 0 by omega)
                   have k10 := gPt_0.mp (show gPt V b.toInt = 0 by omega)
                   have k18 := gPt_0.mp (show gPt V c.toInt = 0 by omega)
                   have g : gSet V a.toInt b.toInt c.toInt = 2 := by unfold gSet; rw [if_pos (by omega), if_pos (by omega)]
                   exact xretB ⟨u256, _, rfl⟩ rfl (by omega) (hR _ _ hH46 (F18.trans (rU_fr U rfl)) (by rw [g, U.1]; omega) (Or.inr ⟨by omega, by omega⟩)))
          · refine xild 36 ⟨u256, _, rfl⟩ rfl rfl ?_
            refine xild 37 ⟨u256, _, rfl⟩ rfl rfl ?_
            refine xcmp_ne 40 ⟨u256, _, rfl⟩ rfl (fun c37 => ?_) (fun c37 => ?_)
            · refine xcst 45 (0) ⟨u256, _, rfl⟩ rfl (by decide) (fun z44 h44 => ?_)
              refine xcst 46 (2) ⟨u256, _, rfl⟩ rfl (by decide) (fun z45 h45 => ?_)
              refine xcall 49 [.ref 66, .int _, .int _] [] hH18 ⟨u256, _, rfl⟩ rfl rfl rfl rfl rfl (k_failsE hH18 (by omega) (fun hp46 hH46 V46 => ⟨_, rfl, ?_⟩))
              refine xif_eq 52 ⟨u256, _, rfl⟩ rfl (fun c49 => ?_) (fun c49 => ?_)
              · refine xcst 57 (0) ⟨u256, _, rfl⟩ rfl (by decide) (fun z56 h56 => ?_)
                rcases V46 with ⟨a9, e⟩ | ⟨a9, U⟩
                · first
                  | (exfalso; omega)
                  | (subst e
                     have k2 := gPt_0.mp (show gPt V a.toInt = 0 by omega)
                     have k10 := gPt_0.mp (show gPt V b.toInt = 0 by omega)
                     have k18 := gPt_0.mp (show gPt V c.toInt = 0 by omega)
                     have g : gSet V a.toInt b.toInt c.toInt = 0 := gSet_0.mpr (by omega)
                     exact xretB ⟨u256, _, rfl⟩ rfl (by omega) (hR _ _ hH46 F18 (by rw [g]; omega) (Or.inl ⟨g, by omega⟩)))
                · first
                  | (exfalso; omega)
                  | (
                     have k2 := gPt_0.mp (show gPt V a.toInt = 0 by omega)
                     have k10 := gPt_0.mp (show gPt V b.toInt = 0 by omega)
                     have k18 := gPt_0.mp (show gPt V c.toInt = 0 by omega)
                     have g : gSet V a.toInt b.toInt c.toInt = 2 := by unfold gSet; rw [if_pos (by omega), if_pos (by omega)]
                     exact xretB ⟨u256, _, rfl⟩ rfl (by omega) (hR _ _ hH46 (F18.trans (rU_fr U rfl)) (by rw [g, U.1]; omega) (Or.inr ⟨by omega, by omega⟩)))
              · refine xcst 53 (1) ⟨u256, _, rfl⟩ rfl (by decide) (fun z52 h52 => ?_)
                refine xgoto ⟨u256, _, rfl⟩ ?_
                rcases V46 with ⟨a9, e⟩ | ⟨a9, U⟩
                · first
                  | (exfalso; omega)
                  | (subst e
                     have k2 := gPt_0.mp (show gPt V a.toInt = 0 by omega)
                     have k10 := gPt_0.mp (show gPt V b.toInt = 0 by omega)
                     have k18 := gPt_0.mp (show gPt V c.toInt = 0 by omega)
                     have g : gSet V a.toInt b.toInt c.toInt = 0 := gSet_0.mpr (by omega)
                     exact xretB ⟨u256, _, rfl⟩ rfl (by omega) (hR _ _ hH46 F18 (by rw [g]; omega) (Or.inl ⟨g, by omega⟩)))
                · first
                  | (exfalso; omega)
                  | (
                     have k2 := gPt_0.mp (show gPt V a.toInt = 0 by omega)
                     have k10 := gPt_0.mp (show gPt V b.toInt = 0 by omega)
                     have k18 := gPt_0.mp (show gPt V c.toInt = 0 by omega)
                     have g : gSet V a.toInt b.toInt c.toInt = 2 := by unfold gSet; rw [if_pos (by omega), if_pos (by omega)]
                     exact xretB ⟨u256, _, rfl⟩ rfl (by omega) (hR _ _ hH46 (F18.trans (rU_fr U rfl)) (by rw [g, U.1]; omega) (Or.inr ⟨by omega, by omega⟩)))
            · refine xcst 41 (1) ⟨u256, _, rfl⟩ rfl (by decide) (fun z40 h40 => ?_)
              refine xgoto ⟨u256, _, rfl⟩ ?_
              refine xcst 46 (2) ⟨u256, _, rfl⟩ rfl (by decide) (fun z45 h45 => ?_)
              refine xcall 49 [.ref 66, .int _, .int _] [] hH18 ⟨u256, _, rfl⟩ rfl rfl rfl rfl rfl (k_failsE hH18 (by omega) (fun hp46 hH46 V46 => ⟨_, rfl, ?_⟩))
              refine xif_eq 52 ⟨u256, _, rfl⟩ rfl (fun c49 => ?_) (fun c49 => ?_)
              · refine xcst 57 (0) ⟨u256, _, rfl⟩ rfl (by decide) (fun z56 h56 => ?_)
                rcases V46 with ⟨a9, e⟩ | ⟨a9, U⟩
                · first
                  | (exfalso; omega)
                  | (subst e
                     have k2 := gPt_0.mp (show gPt V a.toInt = 0 by omega)
                     have k10 := gPt_0.mp (show gPt V b.toInt = 0 by omega)
                     have k18 := gPt_0.mp (show gPt V c.toInt = 0 by omega)
                     have g : gSet V a.toInt b.toInt c.toInt = 0 := gSet_0.mpr (by omega)
                     exact xretB ⟨u256, _, rfl⟩ rfl (by omega) (hR _ _ hH46 F18 (by rw [g]; omega) (Or.inl ⟨g, by omega⟩)))
                · first
                  | (exfalso; omega)
                  | (
                     have k2 := gPt_0.mp (show gPt V a.toInt = 0 by omega)
                     have k10 := gPt_0.mp (show gPt V b.toInt = 0 by omega)
                     have k18 := gPt_0.mp (show gPt V c.toInt = 0 by omega)
                     have g : gSet V a.toInt b.toInt c.toInt = 2 := by unfold gSet; rw [if_pos (by omega), if_pos (by omega)]
                     exact xretB ⟨u256, _, rfl⟩ rfl (by omega) (hR _ _ hH46 (F18.trans (rU_fr U rfl)) (by rw [g, U.1]; omega) (Or.inr ⟨by omega, by omega⟩)))
              · refine xcst 53 (1) ⟨u256, _, rfl⟩ rfl (by decide) (fun z52 h52 => ?_)
                refine xgoto ⟨u256, _, rfl⟩ ?_
                rcases V46 with ⟨a9, e⟩ | ⟨a9, U⟩
                · first
                  | (exfalso; omega)
                  | (subst e
                     have k2 := gPt_0.mp (show gPt V a.toInt = 0 by omega)
                     have k10 := gPt_0.mp (show gPt V b.toInt = 0 by omega)
                     have k18 := gPt_0.mp (show gPt V c.toInt = 0 by omega)
                     have g : gSet V a.toInt b.toInt c.toInt = 0 := gSet_0.mpr (by omega)
                     exact xretB ⟨u256, _, rfl⟩ rfl (by omega) (hR _ _ hH46 F18 (by rw [g]; omega) (Or.inl ⟨g, by omega⟩)))
                · first
                  | (exfalso; omega)
                  | (
                     have k2 := gPt_0.mp (show gPt V a.toInt = 0 by omega)
                     have k10 := gPt_0.mp (show gPt V b.toInt = 0 by omega)
                     have k18 := gPt_0.mp (show gPt V c.toInt = 0 by omega)
                     have g : gSet V a.toInt b.toInt c.toInt = 2 := by unfold gSet; rw [if_pos (by omega), if_pos (by omega)]
                     exact xretB ⟨u256, _, rfl⟩ rfl (by omega) (hR _ _ hH46 (F18.trans (rU_fr U rfl)) (by rw [g, U.1]; omega) (Or.inr ⟨by omega, by omega⟩)))
end
/-! ##### 19.m.043.32c ##### -/
section
/-! ===== triples by their numbers ===== -/
theorem trL_ix {T : sT} {n : Nat} (hb : trB T n = true) : ∀ k, (trL T n).length < (trL T (n + 1 + k)).length ∧ (trL T (n + 1 + k)).getD (trL T n).length 0 = n
  | 0 => by
    show (trL T n).length < (trL T (n + 1)).length ∧ (trL T (n + 1)).getD (trL T n).length 0 = n
    rw [trL_add hb, gd_end, List.length_append, List.length_singleton]
    exact ⟨Nat.lt_succ_self _, rfl⟩
  | k + 1 => by
    obtain ⟨i1, i2⟩ := trL_ix hb k
    have e : trL T (n + 1 + (k + 1)) = (if trB T (n + 1 + k) = true then trL T (n + 1 + k) ++ [n + 1 + k] else trL T (n + 1 + k)) := rfl
    rw [e]
    split
    · rw [gd_app i1, List.length_append]
      exact ⟨by omega, i2⟩
    · exact ⟨i1, i2⟩
/-- the number of the triple of a covered pair -/
theorem ix_of {V : Nat} {T : sT} (hT : sOk V T) {a b : Nat} (h : ¬ T a b = -1) : ∃ t, t < (trL T 225).length ∧ (trL T 225).getD t 0 = cd T a b := by
  obtain ⟨g1, g2, -⟩ := cd_of hT h
  obtain ⟨k1, k2⟩ := trL_ix g1 (224 - cd T a b)
  rw [show cd T a b + 1 + (224 - cd T a b) = 225 by omega] at k1 k2
  exact ⟨_, k1, k2⟩
theorem gd_inj {T : sT} {s t : Nat} (hs : s < (trL T 225).length) (ht : t < (trL T 225).length) (e : (trL T 225).getD s 0 = (trL T 225).getD t 0) : s = t := by
  have h1 := (trL_get 225 s hs).2.2
  have h2 := (trL_get 225 t ht).2.2
  rw [e] at h1
  omega
theorem m3_eq {a b c x y z : Nat} (h : m3 a b c = m3 x y z) (i : Nat) : (i = a ∨ i = b ∨ i = c) ↔ (i = x ∨ i = y ∨ i = z) := by
  have : (m3 a b c).testBit i = (m3 x y z).testBit i := by rw [h]
  rw [m3_test, m3_test, decide_eq_decide] at this
  exact this
/-- the set of a triple of the list tells its third points -/
theorem mk_T {V : Nat} {T : sT} (hT : sOk V T) {n a b c : Nat} (hn : trB T n = true) (e : mk3 T n = m3 a b c) (hab : ¬ a = b) (hbc : ¬ b = c) (hac : ¬ a = c) : T a b = (c : Int) ∧ cd T a b = n := by
  obtain ⟨z, ez, h1, h2, h3⟩ := tr_pts hT hn
  have e2 : m3 (n / 15) (n % 15) z = m3 a b c := by rw [← e]; unfold mk3; rw [ez, Int.toNat_natCast]
  have q := fun i => m3_eq e2 i
  have qa := (q a).mpr (Or.inl rfl)
  have qb := (q b).mpr (Or.inr (Or.inl rfl))
  have qc := (q c).mpr (Or.inr (Or.inr rfl))
  have hp := cd_pr hT (u := a) (v := b) hn (by rw [ez, Int.toNat_natCast]; exact ⟨hab, qa, qb⟩)
  rw [ez] at hp
  obtain ⟨p1, p2, p3⟩ := hp
  refine ⟨?_, p3⟩
  omega
theorem mk_cd {V : Nat} {T : sT} (hT : sOk V T) {a b c : Nat} (e : T a b = (c : Int)) : mk3 T (cd T a b) = m3 a b c := by
  obtain ⟨g1, -, g3⟩ := cd_of hT (u := a) (v := b) (by omega)
  obtain ⟨z, ez, h1, h2, h3⟩ := tr_pts hT g1
  rw [ez, Int.toNat_natCast] at g3
  have hp := (cd_pr hT (u := a) (v := b) g1 (by rw [ez, Int.toNat_natCast]; exact g3)).1
  rw [ez, e] at hp
  unfold mk3
  rw [ez, Int.toNat_natCast]
  obtain ⟨k1, k2, k3⟩ := g3
  obtain ⟨w, ew, -, -, -, d1, d2, d3, -⟩ := sOk_at hT e (by omega)
  apply Nat.eq_of_testBit_eq
  intro i
  rw [m3_test, m3_test, decide_eq_decide]
  omega
def nmF (T : sT) (m : Nat) : Nat → Nat → Int
  | _, 0 => -1
  | k, f + 1 => if mk3 T ((trL T 225).getD k 0) = m then (k : Int) else nmF T m (k + 1) f
/-- the number of the triple with the set m; -1 -/
def nmT (T : sT) (m : Nat) : Int := nmF T m 0 (trL T 225).length
theorem nmF_no {T : sT} {m : Nat} : ∀ (f k : Nat), (∀ j, k ≤ j → j < k + f → ¬ mk3 T ((trL T 225).getD j 0) = m) → nmF T m k f = -1
  | 0, k, _ => rfl
  | f + 1, k, h => by
    unfold nmF
    rw [if_neg (h k (Nat.le_refl k) (by omega))]
    exact nmF_no f (k + 1) (fun j h1 h2 => h j (by omega) (by omega))
theorem nmF_at {T : sT} {m t : Nat} : ∀ (f k : Nat), k ≤ t → t < k + f → mk3 T ((trL T 225).getD t 0) = m → (∀ j, k ≤ j → j < t → ¬ mk3 T ((trL T 225).getD j 0) = m) → nmF T m k f = (t : Int)
  | 0, k, h1, h2, _, _ => by omega
  | f + 1, k, h1, h2, h3, h4 => by
    unfold nmF
    by_cases e : k = t
    · subst e
      rw [if_pos h3]
    · rw [if_neg (h4 k (Nat.le_refl k) (by omega))]
      exact nmF_at f (k + 1) (by omega) (by omega) h3 (fun j g1 g2 => h4 j (by omega) g2)
theorem nm_no {V : Nat} {T : sT} (hT : sOk V T) {a b c : Nat} (hab : ¬ a = b) (hbc : ¬ b = c) (hac : ¬ a = c) (h : ¬ T a b = (c : Int)) : nmT T (m3 a b c) = -1 := by
  refine nmF_no _ _ (fun j h1 h2 => fun e => h ?_)
  exact (mk_T hT (trL_get 225 j (by omega)).1 e hab hbc hac).1
theorem nm_at {V : Nat} {T : sT} (hT : sOk V T) {a b c t : Nat} (e : T a b = (c : Int)) (ht : t < (trL T 225).length) (hg : (trL T 225).getD t 0 = cd T a b) : nmT T (m3 a b c) = (t : Int) := by
  obtain ⟨w, ew, -, -, -, d1, d2, d3, -⟩ := sOk_at hT e (by omega)
  refine nmF_at _ _ (Nat.zero_le t) (by omega) (by rw [hg]; exact mk_cd hT e) (fun j h1 h2 z => ?_)
  have g := (mk_T hT (trL_get 225 j (by omega)).1 z (by omega) (by omega) (by omega)).2
  have := gd_inj (by omega) ht (g.symm.trans hg.symm)
  omega
theorem nm_of {V : Nat} {T : sT} (hT : sOk V T) {a b c : Nat} (e : T a b = (c : Int)) : ∃ t, t < (trL T 225).length ∧ (trL T 225).getD t 0 = cd T a b ∧ nmT T (m3 a b c) = (t : Int) := by
  obtain ⟨t, h1, h2⟩ := ix_of hT (a := a) (b := b) (by omega)
  exact ⟨t, h1, h2, nm_at hT e h1 h2⟩
/-- the set of the triple numbered t -/
theorem nm_mk {V : Nat} {T : sT} (hT : sOk V T) {t : Nat} (ht : t < (trL T 225).length) : nmT T (mk3 T ((trL T 225).getD t 0)) = (t : Int) := by
  obtain ⟨g1, g2, g3⟩ := trL_get 225 t ht
  obtain ⟨z, ez, h1, h2, h3⟩ := tr_pts hT g1
  refine nmF_at _ _ (Nat.zero_le t) (by omega) rfl (fun j k1 k2 w => ?_)
  have e2 : mk3 T ((trL T 225).getD t 0) = m3 ((trL T 225).getD t 0 / 15) ((trL T 225).getD t 0 % 15) z := by unfold mk3; rw [ez, Int.toNat_natCast]
  have c1 := (mk_T hT (trL_get 225 j (by omega)).1 (w.trans e2) (by omega) (by omega) (by omega)).2
  have c2 := (mk_T hT g1 e2 (by omega) (by omega) (by omega)).2
  have := gd_inj (s := j) (by omega) ht (by omega)
  omega
theorem u10 : bUp 0 am_m10.1 = true := by decide +kernel
theorem u11 : bUp 0 am_m11.1 = true := by decide +kernel
theorem u12 : bUp 0 am_m12.1 = true := by decide +kernel
theorem k_bdropU {d : Nat} {hp : amH} {R : xQ} {o V a b c : Nat} {T : sT} {s : Int32} (ho : bo o) (hH : bHk 84 bTT hp) (hB : bdOk hp o V T) (hs : s.toInt = ((m3 a b c : Nat) : Int)) (e : T a b = (c : Int))
    (hR : ∀ hp1, bHk 84 bTT hp1 → bFx [o + 1, o + 3] hp hp1 → bdOk hp1 o V (sTake T a b c) → R (.inl none) hp1) : xK (d + 2) 15 [.ref o, .int s] hp R := by
  have hT := hB.2.1
  obtain ⟨w, ew, l1, l2, l3, d1, d2, d3, t1, t2, t3, t4, t5⟩ := sOk_at hT e (by omega)
  have : w = c := by omega
  subst this
  have go : ∀ x y z : Nat, x < y → y < z → (∀ i, (i = a ∨ i = b ∨ i = w) ↔ (i = x ∨ i = y ∨ i = z)) → T x y = (z : Int) → xK (d + 2) 15 [.ref o, .int s] hp R := by
    intro x y z h1 h2 h3 h4
    have e1 : m3 a b w = m3 x y z := by
      apply Nat.eq_of_testBit_eq
      intro i
      rw [m3_test, m3_test, decide_eq_decide]
      exact h3 i
    have e2 : sTake T a b w = sTake T x y z := by
      funext u v
      unfold sTake
      have q : sPr a b w u v ↔ sPr x y z u v := by unfold sPr; rw [h3 u, h3 v]
      by_cases g : sPr a b w u v
      · rw [if_pos g, if_pos (q.mp g)]
      · rw [if_neg g, if_neg (fun z => g (q.mpr z))]
    rw [e2] at hR
    exact k_bdrop ho hH hB (by rw [hs, e1]) h1 h2 h4 hR
  rcases Nat.lt_or_gt_of_ne d1 with h1 | h1
  · rcases Nat.lt_or_gt_of_ne d3 with h2 | h2
    · exact go a b w h1 h2 (fun i => by omega) e
    · rcases Nat.lt_or_gt_of_ne d2 with h3 | h3
      · exact go a w b h3 h2 (fun i => by omega) t2
      · exact go w a b h3 h1 (fun i => by omega) t4
  · rcases Nat.lt_or_gt_of_ne d2 with h2 | h2
    · exact go b a w h1 h2 (fun i => by omega) t1
    · rcases Nat.lt_or_gt_of_ne d3 with h3 | h3
      · exact go b w a h3 h2 (fun i => by omega) t3
      · exact go w b a h3 h1 (fun i => by omega) t5
/-- one of three points leads to the others just as any two lead to the third -/
theorem T_perm {V : Nat} {T : sT} (hT : sOk V T) {a b c x y z : Nat} (h : ∀ i, (i = a ∨ i = b ∨ i = c) ↔ (i = x ∨ i = y ∨ i = z)) (hab : ¬ a = b) (hbc : ¬ b = c) (hac : ¬ a = c) (hxy : ¬ x = y) (hyz : ¬ y = z) (hxz : ¬ x = z) (e : T a b = (c : Int)) : T x y = (z : Int) := by
  obtain ⟨w, ew, l1, l2, l3, d1, d2, d3, t1, t2, t3, t4, t5⟩ := sOk_at hT e (by omega)
  have : w = c := by omega
  subst this
  have hx := (h x).mpr (Or.inl rfl)
  have hy := (h y).mpr (Or.inr (Or.inl rfl))
  have hz := (h z).mpr (Or.inr (Or.inr rfl))
  rcases hx with rfl | rfl | rfl <;> rcases hy with rfl | rfl | rfl <;> rcases hz with rfl | rfl | rfl <;> first | exact absurd rfl hxy | exact absurd rfl hyz | exact absurd rfl hxz | exact e | assumption
theorem k_hld {d : Nat} {hp : amH} {R : xQ} {o V a b c : Nat} {T : sT} {s : Int32} (ho : bo o) (hH : bHk 84 bTT hp) (hB : bdOk hp o V T) (hs : s.toInt = ((m3 a b c : Nat) : Int)) (ha : a < V) (hb : b < V) (hc : c < V) (hab : ¬ a = b) (hbc : ¬ b = c) (hac : ¬ a = c) (hR : ∀ r : Int32, ((r.toInt = 1 ∧ T a b = (c : Int)) ∨ (r.toInt = 0 ∧ ¬ T a b = (c : Int))) → R (.inl (some (.int r))) hp) : xK (d + 2) 12 [.ref o, .int s] hp R := by
  have hV := hB.2.1.2.1
  obtain ⟨x, y, z, g1, g2, g3, -, -, g6, g7⟩ := srt hab hbc hac
  obtain ⟨l1, l2, l3⟩ := g6 (fun i => i < V) ha hb hc
  have l1 : x < V := l1
  have l2 : y < V := l2
  have l3 : z < V := l3
  obtain ⟨M0, M1, M2⟩ := mem3 g1 g2 (by omega)
  have hm := m3_lt (x := x) (y := y) (z := z) (by omega) (by omega) (by omega)
  rw [g3] at hs
  have key : T a b = (c : Int) ↔ T x y = (z : Int) := ⟨T_perm hB.2.1 g7 hab hbc hac (by omega) (by omega) (by omega), T_perm hB.2.1 (fun i => (g7 i).symm) (by omega) (by omega) (by omega) hab hbc hac⟩
  refine xin (M := am_m12) rfl rfl (by unfold xAv; simp [amOk, bo_lt ho, Value.category]) ?_
  refine xild 1 ⟨u12, _, rfl⟩ rfl rfl ?_
  refine xcst 2 (2) ⟨u12, _, rfl⟩ rfl (by decide) (fun z1 h1 => ?_)
  refine xcallS 5 [.int _, .int _] [] hH ⟨u12, _, rfl⟩ rfl rfl rfl rfl rfl (k_mem hH hs hm (i := 2) (by omega) (fun z2 h2 => ⟨_, rfl, ?_⟩))
  refine xist 6 ⟨u12, _, rfl⟩ rfl rfl ?_
  refine xild 7 ⟨u12, _, rfl⟩ rfl rfl ?_
  refine xcst 8 (-1) ⟨u12, _, rfl⟩ rfl (by decide) (fun z7 h7 => ?_)
  refine xcmp_eq 11 ⟨u12, _, rfl⟩ rfl (fun c8 => ?_) (fun c8 => ?_)
  · omega
  · refine xald 12 ⟨u12, _, rfl⟩ rfl rfl ?_
    refine xild 13 ⟨u12, _, rfl⟩ rfl rfl ?_
    refine xcst 14 (0) ⟨u12, _, rfl⟩ rfl (by decide) (fun z13 h13 => ?_)
    refine xcallS 17 [.int _, .int _] [.ref (o)] hH ⟨u12, _, rfl⟩ rfl rfl rfl (by simp [amOkS, amOk, bo_lt ho, bo_lt1 ho, bo_lt2 ho, bo_lt3 ho, bo_lt4 ho]) rfl (k_mem hH hs hm (i := 0) (by omega) (fun z14 h14 => ⟨_, rfl, ?_⟩))
    refine xild 18 ⟨u12, _, rfl⟩ rfl rfl ?_
    refine xcst 19 (1) ⟨u12, _, rfl⟩ rfl (by decide) (fun z18 h18 => ?_)
    refine xcallS 22 [.int _, .int _] [.int _, .ref (o)] hH ⟨u12, _, rfl⟩ rfl rfl rfl (by simp [amOkS, amOk, bo_lt ho, bo_lt1 ho, bo_lt2 ho, bo_lt3 ho, bo_lt4 ho]) rfl (k_mem hH hs hm (i := 1) (by omega) (fun z19 h19 => ⟨_, rfl, ?_⟩))
    refine xcallC 25 (o := o) [.int _, .int _] [] hH ⟨u12, _, rfl⟩ rfl rfl (bo_lt ho) (bo_T ho) (by decide) rfl ⟨rfl, rfl, rfl, rfl⟩ rfl (k_thd ho hH hB (fun z22 h22 => ⟨_, rfl, ?_⟩))
    rw [if_pos (by omega), show z14.toInt.toNat = x by omega, show z19.toInt.toNat = y by omega] at h22
    refine xild 26 ⟨u12, _, rfl⟩ rfl rfl ?_
    refine xcmp_ne 29 ⟨u12, _, rfl⟩ rfl (fun c26 => ?_) (fun c26 => ?_)
    · refine xcst 34 (0) ⟨u12, _, rfl⟩ rfl (by decide) (fun z33 h33 => ?_)
      exact xretB ⟨u12, _, rfl⟩ rfl (by omega) (hR _ (Or.inr ⟨by omega, fun g => by have := key.mp g; omega⟩))
    · refine xcst 30 (1) ⟨u12, _, rfl⟩ rfl (by decide) (fun z29 h29 => ?_)
      refine xgoto ⟨u12, _, rfl⟩ ?_
      exact xretB ⟨u12, _, rfl⟩ rfl (by omega) (hR _ (Or.inl ⟨by omega, key.mpr (by omega)⟩))
/-- the number of the triple of a covered pair, as the board has it -/
theorem k_nbc {d : Nat} {hp : amH} {R : xQ} {o V x y : Nat} {T : sT} {a b : Int32} (ho : bo o) (hH : bHk 84 bTT hp) (hB : bdOk hp o V T) (hL : lsN hp o T 225) (ha : a.toInt = (x : Int)) (hb : b.toInt = (y : Int)) (h : ¬ T x y = -1) (hR : ∀ (r : Int32) (t : Nat), t < (trL T 225).length → (trL T 225).getD t 0 = cd T x y → r.toInt = (t : Int) → R (.inl (some (.int r))) hp) : xK (d + 1) 10 [.ref o, .int a, .int b] hp R := by
  have hV := hB.2.1.2.1
  have bV := hB.1
  obtain ⟨w, ew, l1, l2, l3, d1, d2, d3, -⟩ := sOk_at hB.2.1 rfl h
  obtain ⟨t, t1, t2⟩ := ix_of hB.2.1 h
  have cp := (cd_of hB.2.1 h).2.2
  have nb : rN hp (o + 2) (15 * x + y) = (t : Int) := hL.2.2 t x y t1 (by omega) (by omega) (by rw [t2]; exact cp)
  refine xin (M := am_m10) rfl rfl (by unfold xAv; simp [amOk, bo_lt ho, Value.category]) ?_
  refine xald 1 ⟨u10, _, rfl⟩ rfl rfl ?_
  refine xild 2 ⟨u10, _, rfl⟩ rfl rfl ?_
  refine xcallC 5 (o := o) [.int _] [] hH ⟨u10, _, rfl⟩ rfl rfl (bo_lt ho) (bo_T ho) (by decide) rfl ⟨rfl, rfl, rfl, rfl⟩ rfl (k_isp ho hH (fun z2 h2 => ⟨_, rfl, ?_⟩))
  refine xif_eq 8 ⟨u10, _, rfl⟩ rfl (fun c5 => ?_) (fun c5 => ?_)
  · omega
  · refine xald 9 ⟨u10, _, rfl⟩ rfl rfl ?_
    refine xild 10 ⟨u10, _, rfl⟩ rfl rfl ?_
    refine xcallC 13 (o := o) [.int _] [] hH ⟨u10, _, rfl⟩ rfl rfl (bo_lt ho) (bo_T ho) (by decide) rfl ⟨rfl, rfl, rfl, rfl⟩ rfl (k_isp ho hH (fun z10 h10 => ⟨_, rfl, ?_⟩))
    refine xif_eq 16 ⟨u10, _, rfl⟩ rfl (fun c13 => ?_) (fun c13 => ?_)
    · omega
    · refine xald 17 ⟨u10, _, rfl⟩ rfl rfl ?_
      refine xild 18 ⟨u10, _, rfl⟩ rfl rfl ?_
      refine xild 19 ⟨u10, _, rfl⟩ rfl rfl ?_
      refine xcallC 22 (o := o) [.int _, .int _] [] hH ⟨u10, _, rfl⟩ rfl rfl (bo_lt ho) (bo_T ho) (by decide) rfl ⟨rfl, rfl, rfl, rfl⟩ rfl (k_thd ho hH hB (fun z19 h19 => ⟨_, rfl, ?_⟩))
      rw [if_pos (by omega), show a.toInt.toNat = x by omega, show b.toInt.toNat = y by omega] at h19
      refine xcst 23 (-1) ⟨u10, _, rfl⟩ rfl (by decide) (fun z22 h22 => ?_)
      refine xcmp_eq 26 ⟨u10, _, rfl⟩ rfl (fun c23 => ?_) (fun c23 => ?_)
      · omega
      · refine xcst 27 (1) ⟨u10, _, rfl⟩ rfl (by decide) (fun z26 h26 => ?_)
        refine xgoto ⟨u10, _, rfl⟩ ?_
        refine xist 32 ⟨u10, _, rfl⟩ rfl rfl ?_
        refine xild 33 ⟨u10, _, rfl⟩ rfl rfl ?_
        refine xif_eq 36 ⟨u10, _, rfl⟩ rfl (fun c33 => ?_) (fun c33 => ?_)
        · omega
        · refine xald 37 ⟨u10, _, rfl⟩ rfl rfl ?_
          refine xgetD 40 (o + 2) hH ⟨u10, _, rfl⟩ rfl (bo_lt ho) (by decide) (bo_T ho) rfl (by decide) ?_
          refine xild 41 ⟨u10, _, rfl⟩ rfl rfl ?_
          refine xbip 43 (15) ⟨u10, _, rfl⟩ rfl (by decide) (fun z41 h41 => ?_)
          refine xmul 44 (Int32.toInt a * 15) ⟨u10, _, rfl⟩ rfl (by rw [h41]) (by omega) (by omega) (fun z43 h43 => ?_)
          refine xild 45 ⟨u10, _, rfl⟩ rfl rfl ?_
          refine xadd 46 _ ⟨u10, _, rfl⟩ rfl rfl (by omega) (by omega) (fun z45 h45 => ?_)
          refine xiald 47 (z45).toInt.toNat hH ⟨u10, _, rfl⟩ rfl (bo_lt2 ho) (bo_T2 ho) (by omega) (by omega) (fun z46 h46 => ?_)
          refine xgoto ⟨u10, _, rfl⟩ ?_
          exact xret ⟨u10, _, rfl⟩ rfl (hR _ t t1 t2 (by rw [h46, show z45.toInt.toNat = 15 * x + y by omega]; exact nb))
theorem k_nof {d : Nat} {hp : amH} {R : xQ} {o V a b c : Nat} {T : sT} {s : Int32} (ho : bo o) (hH : bHk 84 bTT hp) (hB : bdOk hp o V T) (hL : lsN hp o T 225) (hs : s.toInt = ((m3 a b c : Nat) : Int)) (ha : a < V) (hb : b < V) (hc : c < V) (hab : ¬ a = b) (hbc : ¬ b = c) (hac : ¬ a = c) (hR : ∀ r : Int32, r.toInt = nmT T (m3 a b c) → R (.inl (some (.int r))) hp) : xK (d + 3) 11 [.ref o, .int s] hp R := by
  have hs0 := hs
  have hV := hB.2.1.2.1
  obtain ⟨x, y, z, g1, g2, g3, -, -, g6, g7⟩ := srt hab hbc hac
  obtain ⟨l1, l2, l3⟩ := g6 (fun i => i < V) ha hb hc
  have l1 : x < V := l1
  have l2 : y < V := l2
  have l3 : z < V := l3
  obtain ⟨M0, M1, M2⟩ := mem3 g1 g2 (by omega)
  have hm := m3_lt (x := x) (y := y) (z := z) (by omega) (by omega) (by omega)
  rw [g3] at hs
  have key : T a b = (c : Int) ↔ T x y = (z : Int) := ⟨T_perm hB.2.1 g7 hab hbc hac (by omega) (by omega) (by omega), T_perm hB.2.1 (fun i => (g7 i).symm) (by omega) (by omega) (by omega) hab hbc hac⟩
  refine xin (M := am_m11) rfl rfl (by unfold xAv; simp [amOk, bo_lt ho, Value.category]) ?_
  refine xald 1 ⟨u11, _, rfl⟩ rfl rfl ?_
  refine xild 2 ⟨u11, _, rfl⟩ rfl rfl ?_
  refine xcallC 5 (o := o) [.int _] [] hH ⟨u11, _, rfl⟩ rfl rfl (bo_lt ho) (bo_T ho) (by decide) rfl ⟨rfl, rfl, rfl, rfl⟩ rfl (k_hld ho hH hB hs0 ha hb hc hab hbc hac (fun z2 h2 => ⟨_, rfl, ?_⟩))
  refine xif_eq 8 ⟨u11, _, rfl⟩ rfl (fun c5 => ?_) (fun c5 => ?_)
  · refine xcst 26 (-1) ⟨u11, _, rfl⟩ rfl (by decide) (fun z25 h25 => ?_)
    exact xret ⟨u11, _, rfl⟩ rfl (hR _ (by rw [nm_no hB.2.1 hab hbc hac (by omega)]; exact h25))
  · have exy : T x y = (z : Int) := key.mp (by omega)
    refine xald 9 ⟨u11, _, rfl⟩ rfl rfl ?_
    refine xild 10 ⟨u11, _, rfl⟩ rfl rfl ?_
    refine xcst 11 (0) ⟨u11, _, rfl⟩ rfl (by decide) (fun z10 h10 => ?_)
    refine xcallS 14 [.int _, .int _] [.ref (o)] hH ⟨u11, _, rfl⟩ rfl rfl rfl (by simp [amOkS, amOk, bo_lt ho, bo_lt1 ho, bo_lt2 ho, bo_lt3 ho, bo_lt4 ho]) rfl (k_mem hH hs hm (i := 0) (by omega) (fun z11 h11 => ⟨_, rfl, ?_⟩))
    refine xild 15 ⟨u11, _, rfl⟩ rfl rfl ?_
    refine xcst 16 (1) ⟨u11, _, rfl⟩ rfl (by decide) (fun z15 h15 => ?_)
    refine xcallS 19 [.int _, .int _] [.int _, .ref (o)] hH ⟨u11, _, rfl⟩ rfl rfl rfl (by simp [amOkS, amOk, bo_lt ho, bo_lt1 ho, bo_lt2 ho, bo_lt3 ho, bo_lt4 ho]) rfl (k_mem hH hs hm (i := 1) (by omega) (fun z16 h16 => ⟨_, rfl, ?_⟩))
    refine xcallC 22 (o := o) [.int _, .int _] [] hH ⟨u11, _, rfl⟩ rfl rfl (bo_lt ho) (bo_T ho) (by decide) rfl ⟨rfl, rfl, rfl, rfl⟩ rfl (k_nbc ho hH hB hL (x := x) (y := y) (by omega) (by omega) (by omega) (fun z19 t19 k19 e19 h19 => ⟨_, rfl, ?_⟩))
    refine xgoto ⟨u11, _, rfl⟩ ?_
    exact xret ⟨u11, _, rfl⟩ rfl (hR _ (by rw [g3, nm_at hB.2.1 exy k19 e19]; exact h19))
end
/-! ##### 19.m.044.33a ##### -/
section
/-! ===== the reference: numbers, adding, removing ===== -/
theorem l212n {d : Nat} {hp : amH} {R : xQ} {V m : Nat} {T : sT} {x : Int32} (hH : bHk 84 bTT hp) (hB : rdOk hp V T) (hL : rlN hp T 225) (hx : x.toInt = (m : Int)) (hR : ∀ z : Int32, z.toInt = nmT T m → R (.inl (some (.int z))) hp) :
    ∀ (f k : Nat) (w : Int32), w.toInt = (k : Int) → k + f = (trL T 225).length → nmF T m k f = nmT T m → xV d am_m212 2 [some (.ref 66), some (.int x), some (.int w)] [] hp R := by
  have l35 := trL_35 hB.2.1 225
  have L1 := hL.1
  intro f
  induction f with
  | zero =>
    intro k w hw hk hN
    refine xild 3 ⟨u212, _, rfl⟩ rfl rfl ?_
    refine xald 4 ⟨u212, _, rfl⟩ rfl rfl ?_
    refine xgetI 7 hH ⟨u212, _, rfl⟩ rfl rfl (fun z4 h4 => ?_)
    refine xcmp_ge 10 ⟨u212, _, rfl⟩ rfl (fun c7 => ?_) (fun c7 => ?_)
    · refine xcst 29 (-1) ⟨u212, _, rfl⟩ rfl (by decide) (fun z28 h28 => ?_)
      exact xret ⟨u212, _, rfl⟩ rfl (hR _ (by rw [← hN]; exact h28))
    · omega
  | succ f ih =>
    intro k w hw hk hN
    have L2 := (hL.2 k (by omega)).2.2.2
    refine xild 3 ⟨u212, _, rfl⟩ rfl rfl ?_
    refine xald 4 ⟨u212, _, rfl⟩ rfl rfl ?_
    refine xgetI 7 hH ⟨u212, _, rfl⟩ rfl rfl (fun z4 h4 => ?_)
    refine xcmp_ge 10 ⟨u212, _, rfl⟩ rfl (fun c7 => ?_) (fun c7 => ?_)
    · omega
    · refine xald 11 ⟨u212, _, rfl⟩ rfl rfl ?_
      refine xgetR 14 75 hH ⟨u212, _, rfl⟩ rfl rfl ?_
      refine xild 15 ⟨u212, _, rfl⟩ rfl rfl ?_
      refine xiald 16 (w).toInt.toNat hH ⟨u212, _, rfl⟩ rfl (by decide) rfl (by omega) (by omega) (fun z15 h15 => ?_)
      have e15 : z15.toInt = ((mk3 T ((trL T 225).getD k 0) : Nat) : Int) := by rw [h15, show w.toInt.toNat = k by omega]; exact L2
      refine xild 17 ⟨u212, _, rfl⟩ rfl rfl ?_
      refine xcmp_ne 20 ⟨u212, _, rfl⟩ rfl (fun c17 => ?_) (fun c17 => ?_)
      · refine xinc 25 (1) ⟨u212, _, rfl⟩ rfl rfl rfl (by decide) (by omega) (by omega) (fun z22 h22 => ?_)
        refine xgoto ⟨u212, _, rfl⟩ ?_
        refine ih (k + 1) _ (by omega) (by omega) ?_
        rw [← hN]
        show _ = (if mk3 T ((trL T 225).getD k 0) = m then (k : Int) else nmF T m (k + 1) f)
        rw [if_neg (by omega)]
      · refine xild 21 ⟨u212, _, rfl⟩ rfl rfl ?_
        exact xret ⟨u212, _, rfl⟩ rfl (hR _ (by
          rw [← hN]
          show _ = (if mk3 T ((trL T 225).getD k 0) = m then (k : Int) else nmF T m (k + 1) f)
          rw [if_pos (by omega)]
          exact hw))
theorem k_rnof {d : Nat} {hp : amH} {R : xQ} {V m : Nat} {T : sT} {x : Int32} (hH : bHk 84 bTT hp) (hB : rdOk hp V T) (hL : rlN hp T 225) (hx : x.toInt = (m : Int)) (hR : ∀ z : Int32, z.toInt = nmT T m → R (.inl (some (.int z))) hp) : xK d 212 [.ref 66, .int x] hp R := by
  refine xin (M := am_m212) rfl rfl rfl ?_
  refine xcst 1 (0) ⟨u212, _, rfl⟩ rfl (by decide) (fun z0 h0 => ?_)
  refine xist 2 ⟨u212, _, rfl⟩ rfl rfl ?_
  exact l212n hH hB hL hx hR (trL T 225).length 0 _ (by omega) (by omega) rfl
theorem rlN_fr {hp hp1 : amH} {T : sT} {n : Nat} (h : rlN hp T n) (e : rN hp1 66 12 = rN hp 66 12) (e1 : ∀ i, rN hp1 72 i = rN hp 72 i) (e2 : ∀ i, rN hp1 73 i = rN hp 73 i) (e3 : ∀ i, rN hp1 74 i = rN hp 74 i) (e4 : ∀ i, rN hp1 75 i = rN hp 75 i) : rlN hp1 T n :=
  ⟨e.trans h.1, fun t ht => by rw [e1, e2, e3, e4]; exact h.2 t ht⟩
theorem k_gpt {d V : Nat} {T : sT} {hp : amH} {R : xQ} {t : Int32} (hH : bHk 84 bTT hp) (hB : rdOk hp V T)
    (hR : ∀ (z : Int32) hp1, bHk 84 bTT hp1 → bFr ((66, 7) :: bLT) hp hp1 → rdOk hp1 V T → rlN hp1 T 225 → rN hp1 66 7 = gTri (trL T 225).length t.toInt → ((gTri (trL T 225).length t.toInt = 0 ∧ z.toInt = 0) ∨ (gTri (trL T 225).length t.toInt = 1 ∧ z.toInt = 1)) → R (.inl (some (.int z))) hp1) : xK (d + 2) 257 [.ref 66, .int t] hp R := by
  refine xin (M := am_m257) rfl rfl rfl ?_
  refine xald 1 ⟨u257, _, rfl⟩ rfl rfl ?_
  refine xcst 2 (0) ⟨u257, _, rfl⟩ rfl (by decide) (fun z1 h1 => ?_)
  refine xputI 5 hH ⟨u257, _, rfl⟩ rfl rfl ⟨rfl, rfl⟩ (by omega) (by omega) (fun hp2 hH2 U2 => ?_)
  have s2 := U2.1
  refine xald 6 ⟨u257, _, rfl⟩ rfl rfl ?_
  refine xcall 9 [.ref 66] [] hH2 ⟨u257, _, rfl⟩ rfl rfl rfl rfl rfl (k_rlst hH2 (rdOk_fr hB (fun i => rU_ne U2 (by omega))) (fun hp6 hH6 F6 B6 L6 => ⟨_, rfl, ?_⟩))
  have L1 := L6.1
  have l35 := trL_35 hB.2.1 225
  have s6 : rN hp6 66 7 = 0 := (r_fr F6 rfl).trans (U2.1.trans h1)
  have F26 : bFr ((66, 7) :: bLT) hp hp6 := (rU_fr U2 (by decide)).trans (bFr_sub F6 (by decide))
  refine xald 10 ⟨u257, _, rfl⟩ rfl rfl ?_
  refine xild 11 ⟨u257, _, rfl⟩ rfl rfl ?_
  refine xcst 12 (0) ⟨u257, _, rfl⟩ rfl (by decide) (fun z11 h11 => ?_)
  refine xald 13 ⟨u257, _, rfl⟩ rfl rfl ?_
  refine xgetI 16 hH6 ⟨u257, _, rfl⟩ rfl rfl (fun z13 h13 => ?_)
  refine xcst 17 (1) ⟨u257, _, rfl⟩ rfl (by decide) (fun z16 h16 => ?_)
  refine xsub 18 _ ⟨u257, _, rfl⟩ rfl rfl (by omega) (by omega) (fun z17 h17 => ?_)
  refine xcallS 21 [.int _, .int _, .int _] [.ref 66] hH6 ⟨u257, _, rfl⟩ rfl rfl rfl rfl rfl (k_inr (fun z18 h18 => ⟨_, rfl, ?_⟩))
  refine xif_ne 24 ⟨u257, _, rfl⟩ rfl (fun c21 => ?_) (fun c21 => ?_)
  · refine xcst 29 (0) ⟨u257, _, rfl⟩ rfl (by decide) (fun z28 h28 => ?_)
    refine xcst 30 (1) ⟨u257, _, rfl⟩ rfl (by decide) (fun z29 h29 => ?_)
    refine xcall 33 [.ref 66, .int _, .int _] [] hH6 ⟨u257, _, rfl⟩ rfl rfl rfl rfl rfl (k_failsE hH6 (by omega) (fun hp30 hH30 V30 => ⟨_, rfl, ?_⟩))
    rcases V30 with ⟨a, e⟩ | ⟨a, U⟩
    · first
      | (exfalso; omega)
      | (subst e
         have g : gTri (trL T 225).length t.toInt = 0 := gTri_0.mpr (by omega)
         exact xretB ⟨u257, _, rfl⟩ rfl (by omega) (hR _ _ hH30 F26 B6 L6 (by rw [g]; exact s6) (Or.inl ⟨g, a⟩)))
    · first
      | (exfalso; omega)
      | (have g : gTri (trL T 225).length t.toInt = 1 := by unfold gTri; rw [if_neg (by omega)]
         exact xretB ⟨u257, _, rfl⟩ rfl (by omega) (hR _ _ hH30 (F26.trans (rU_fr U (by decide))) (rdOk_fr B6 (fun i => rU_ne U (by omega))) (rlN_fr L6 (rU_ne U (by omega)) (fun i => rU_ne U (by omega)) (fun i => rU_ne U (by omega)) (fun i => rU_ne U (by omega)) (fun i => rU_ne U (by omega))) (by rw [g, U.1]; exact h29) (Or.inr ⟨g, a⟩)))
  · refine xcst 25 (1) ⟨u257, _, rfl⟩ rfl (by decide) (fun z24 h24 => ?_)
    refine xgoto ⟨u257, _, rfl⟩ ?_
    refine xcst 30 (1) ⟨u257, _, rfl⟩ rfl (by decide) (fun z29 h29 => ?_)
    refine xcall 33 [.ref 66, .int _, .int _] [] hH6 ⟨u257, _, rfl⟩ rfl rfl rfl rfl rfl (k_failsE hH6 (by omega) (fun hp30 hH30 V30 => ⟨_, rfl, ?_⟩))
    rcases V30 with ⟨a, e⟩ | ⟨a, U⟩
    · first
      | (exfalso; omega)
      | (subst e
         have g : gTri (trL T 225).length t.toInt = 0 := gTri_0.mpr (by omega)
         exact xretB ⟨u257, _, rfl⟩ rfl (by omega) (hR _ _ hH30 F26 B6 L6 (by rw [g]; exact s6) (Or.inl ⟨g, a⟩)))
    · first
      | (exfalso; omega)
      | (have g : gTri (trL T 225).length t.toInt = 1 := by unfold gTri; rw [if_neg (by omega)]
         exact xretB ⟨u257, _, rfl⟩ rfl (by omega) (hR _ _ hH30 (F26.trans (rU_fr U (by decide))) (rdOk_fr B6 (fun i => rU_ne U (by omega))) (rlN_fr L6 (rU_ne U (by omega)) (fun i => rU_ne U (by omega)) (fun i => rU_ne U (by omega)) (fun i => rU_ne U (by omega)) (fun i => rU_ne U (by omega))) (by rw [g, U.1]; exact h29) (Or.inr ⟨g, a⟩)))
def cvT (T : sT) (x y : Nat) : Int := if T x y = -1 then 0 else 1
/-- why a triple can't come: 1 it is there, else 1 and the covered pairs; 0 -/
def rsn (T : sT) (x y z : Nat) : Int := if T x y = (z : Int) then 1 else if cvT T x y + cvT T y z + cvT T x z = 0 then 0 else 1 + (cvT T x y + cvT T y z + cvT T x z)
theorem cvT_01 (T : sT) (x y : Nat) : (cvT T x y = 0 ∧ T x y = -1) ∨ (cvT T x y = 1 ∧ ¬ T x y = -1) := by
  unfold cvT
  by_cases h : T x y = -1
  · rw [if_pos h]; exact Or.inl ⟨rfl, h⟩
  · rw [if_neg h]; exact Or.inr ⟨rfl, h⟩
theorem rsn_0 {T : sT} {x y z : Nat} : rsn T x y z = 0 ↔ sFree T x y z := by
  have a := cvT_01 T x y
  have b := cvT_01 T y z
  have c := cvT_01 T x z
  unfold rsn sFree
  split
  · omega
  · split <;> omega
theorem cv_T {hp : amH} {V : Nat} {T : sT} (hB : rdOk hp V T) {x y : Nat} (hx : x < 15) (hy : y < 15) : cv hp x y = cvT T x y := by
  unfold cv cvT
  rw [hB.2.2.1 x y hx hy]
theorem k_rrea {d : Nat} {hp : amH} {R : xQ} {V x y z : Nat} {T : sT} {a b c : Int32} (hH : bHk 84 bTT hp) (hB : rdOk hp V T) (ha : a.toInt = (x : Int)) (hb : b.toInt = (y : Int)) (hc : c.toInt = (z : Int)) (hx : x < V) (hy : y < V) (hz : z < V) (hR : ∀ r : Int32, r.toInt = rsn T x y z → R (.inl (some (.int r))) hp) : xK (d + 3) 269 [.ref 66, .int a, .int b, .int c] hp R := by
  have hV := hB.2.1.2.1
  have a1 := cvT_01 T x y
  have a2 := cvT_01 T y z
  have a3 := cvT_01 T x z
  refine xin (M := am_m269) rfl rfl rfl ?_
  refine xald 1 ⟨u269, _, rfl⟩ rfl rfl ?_
  refine xild 2 ⟨u269, _, rfl⟩ rfl rfl ?_
  refine xild 3 ⟨u269, _, rfl⟩ rfl rfl ?_
  refine xcall 6 [.ref 66, .int _, .int _] [] hH ⟨u269, _, rfl⟩ rfl rfl rfl rfl rfl (k_third hH (by omega) (by omega) (by omega) (by omega) (fun z3 h3 => ⟨_, rfl, ?_⟩))
  rw [show a.toInt.toNat = x by omega, show b.toInt.toNat = y by omega, hB.2.2.1 x y (by omega) (by omega)] at h3
  refine xild 7 ⟨u269, _, rfl⟩ rfl rfl ?_
  refine xcmp_ne 10 ⟨u269, _, rfl⟩ rfl (fun c7 => ?_) (fun c7 => ?_)
  · refine xald 13 ⟨u269, _, rfl⟩ rfl rfl ?_
    refine xild 14 ⟨u269, _, rfl⟩ rfl rfl ?_
    refine xild 15 ⟨u269, _, rfl⟩ rfl rfl ?_
    refine xild 16 ⟨u269, _, rfl⟩ rfl rfl ?_
    refine xcall 19 [.ref 66, .int _, .int _, .int _] [] hH ⟨u269, _, rfl⟩ rfl rfl rfl rfl rfl (k_covin hH (by omega) (by omega) (by omega) (by omega) (by omega) (by omega) (fun z16 h16 => ⟨_, rfl, ?_⟩))
    rw [show a.toInt.toNat = x by omega, show b.toInt.toNat = y by omega, show c.toInt.toNat = z by omega, cv_T hB (by omega) (by omega), cv_T hB (by omega) (by omega), cv_T hB (by omega) (by omega)] at h16
    refine xist2 21 ⟨u269, _, rfl⟩ rfl rfl ?_
    refine xild2 23 ⟨u269, _, rfl⟩ rfl rfl ?_
    refine xif_ne 26 ⟨u269, _, rfl⟩ rfl (fun c23 => ?_) (fun c23 => ?_)
    · refine xcst 31 (1) ⟨u269, _, rfl⟩ rfl (by decide) (fun z30 h30 => ?_)
      refine xild2 33 ⟨u269, _, rfl⟩ rfl rfl ?_
      refine xadd 34 _ ⟨u269, _, rfl⟩ rfl rfl (by omega) (by omega) (fun z33 h33 => ?_)
      exact xret ⟨u269, _, rfl⟩ rfl (hR _ (by unfold rsn; rw [if_neg (by omega), if_neg (by omega)]; omega))
    · refine xcst 27 (0) ⟨u269, _, rfl⟩ rfl (by decide) (fun z26 h26 => ?_)
      refine xgoto ⟨u269, _, rfl⟩ ?_
      exact xret ⟨u269, _, rfl⟩ rfl (hR _ (by unfold rsn; rw [if_neg (by omega), if_pos (by omega)]; exact h26))
  · refine xcst 11 (1) ⟨u269, _, rfl⟩ rfl (by decide) (fun z10 h10 => ?_)
    exact xret ⟨u269, _, rfl⟩ rfl (hR _ (by unfold rsn; rw [if_pos (by omega)]; exact h10))
end
/-! ##### 19.m.045.33b ##### -/
section
/-! ===== the reference: a triple added, removed ===== -/
def rfS (hp : amH) (q : sR) (n : Nat) (h : Nat → sR) (sv : Option sR) : Prop := rowOk (rN hp 67) q ∧ hyR hp n h sv
theorem rfS_W {W : List (Nat × Nat)} {hp hp1 : amH} {q : sR} {n : Nat} {h : Nat → sR} {sv : Option sR} (hS : rfS hp q n h sv) (F : bFr W hp hp1) (a : ∀ k, bIn W 67 k = false) (b : bIn W 66 5 = false) (c : bIn W 66 6 = false) (d : ∀ k, bIn W 70 k = false) (e : ∀ k, bIn W 71 k = false) : rfS hp1 q n h sv :=
  ⟨rowOk_eq hS.1 (fun i _ => r_fr F (a i)), hyR_fr hS.2 (r_fr F b) (r_fr F c) (fun i => r_fr F (d i)) (fun i => r_fr F (e i))⟩
/-- the system's row changed -/
theorem rfS_67 {hp hp1 : amH} {q q1 : sR} {n : Nat} {h : Nat → sR} {sv : Option sR} (hS : rfS hp q n h sv) (F : bFr [(67, 999)] hp hp1) (h1 : rowOk (rN hp1 67) q1) : rfS hp1 q1 n h sv :=
  ⟨h1, hyR_fr hS.2 (r_fr F rfl) (r_fr F rfl) (fun i => r_fr F rfl) (fun i => r_fr F rfl)⟩
theorem rfS_P {hp : amH} {q : sR} {n : Nat} {h : Nat → sR} {sv : Option sR} (hS : rfS hp q n h sv) (ha : 3 ≤ rN hp 69 0 → Vf (rN hp 69)) : P0 hp := by
  obtain ⟨h1, y1, y2, y3, y4⟩ := hS
  refine ⟨rowOk_V h1, fun z => ?_, fun k hk _ => rowOk_V (y3 k (by omega)), ha⟩
  cases sv with
  | none => have y4 : rN hp 66 6 = 0 := y4; omega
  | some q => exact rowOk_V y4.2
/-- the kept systems are one more -/
theorem k_rmS {d n : Nat} {h : Nat → sR} {sv : Option sR} {q : sR} {hp : amH} {R : xQ} (hH : bHk 84 bTT hp) (hP : P0 hp) (hS : rfS hp q n h sv) (hR : ∀ hp1, bHk 84 bTT hp1 → P0 hp1 → bFr wRem hp hp1 → rfS hp1 q (pM n + 1) (pH n h q) sv → R (.inl none) hp1) : xK (d + 1) 200 [.ref 66] hp R :=
  k_rmem hH hP hS.1 hS.2 (fun hp1 g1 g2 g3 g4 => hR hp1 g1 g2 g3 ⟨rowOk_eq hS.1 (fun i _ => r_fr g3 rfl), g4⟩)
/-- whether a triple can be added: 0, else what is thrown -/
def aCd (V : Nat) (T : sT) (a b c : Int) : Int := if ¬ gSet V a b c = 0 then gSet V a b c else if sFree T a.toNat b.toNat c.toNat then 0 else 3
theorem aCd_1 {V : Nat} {T : sT} {a b c : Int} (h : ¬ gSet V a b c = 0) : aCd V T a b c = gSet V a b c := by unfold aCd; rw [if_pos h]
theorem aCd_2 {V : Nat} {T : sT} {a b c : Int} (h : gSet V a b c = 0) (h2 : sFree T a.toNat b.toNat c.toNat) : aCd V T a b c = 0 := by unfold aCd; rw [if_neg (fun z => z h), if_pos h2]
theorem aCd_3 {V : Nat} {T : sT} {a b c : Int} (h : gSet V a b c = 0) (h2 : ¬ sFree T a.toNat b.toNat c.toNat) : aCd V T a b c = 3 := by unfold aCd; rw [if_neg (fun z => z h), if_neg h2]
theorem k_272E {d V n : Nat} {h : Nat → sR} {sv : Option sR} {T : sT} {ty : Nat → Int} {hp : amH} {R : xQ} {a b c : Int32} (hH : bHk 84 bTT hp) (hP : P0 hp) (hS : rfS hp (V, T, ty) n h sv)
    (hR : ∀ (z : Int32) hp1, bHk 84 bTT hp1 → P0 hp1 → bFr wM hp hp1 → rN hp1 66 7 = aCd V T a.toInt b.toInt c.toInt → ((¬ aCd V T a.toInt b.toInt c.toInt = 0 ∧ rfS hp1 (V, T, ty) n h sv) ∨ (aCd V T a.toInt b.toInt c.toInt = 0 ∧ rfS hp1 (V, sPut T a.toInt.toNat b.toInt.toNat c.toInt.toNat, ty) (pM n + 1) (pH n h (V, T, ty)) sv ∧ z.toInt = nmT (sPut T a.toInt.toNat b.toInt.toNat c.toInt.toNat) (m3 a.toInt.toNat b.toInt.toNat c.toInt.toNat))) → R (.inl (some (.int z))) hp1) : xK (d + 4) 272 [.ref 66, .int a, .int b, .int c] hp R := by
  have hV : V ≤ 15 := hS.1.2.1.2.1
  have hV0 : rN hp 67 0 = (V : Int) := hS.1.1
  refine xin (M := am_m272) rfl rfl rfl ?_
  refine xald 1 ⟨u272, _, rfl⟩ rfl rfl ?_
  refine xild 2 ⟨u272, _, rfl⟩ rfl rfl ?_
  refine xild 3 ⟨u272, _, rfl⟩ rfl rfl ?_
  refine xild 4 ⟨u272, _, rfl⟩ rfl rfl ?_
  refine xcall 7 [.ref 66, .int _, .int _, .int _] [] hH ⟨u272, _, rfl⟩ rfl rfl rfl rfl rfl (k_gp3 hH hV0 hV (fun z4 hp4 hH4 F4 t4 o4 => ⟨_, rfl, ?_⟩))
  have S4 := rfS_W hS F4 (fun _ => rfl) rfl rfl (fun _ => rfl) (fun _ => rfl)
  have P4 : P0 hp4 := P0_W (W := [(66, 7)]) (by decide) F4 hP
  refine xif_ne 10 ⟨u272, _, rfl⟩ rfl (fun c7 => ?_) (fun c7 => ?_)
  · refine xcst 34 (0) ⟨u272, _, rfl⟩ rfl (by decide) (fun z33 h33 => ?_)
    exact xret ⟨u272, _, rfl⟩ rfl (hR _ hp4 hH4 P4 (bFr_sub F4 (by decide)) (by rw [t4, aCd_1 (by omega)]) (Or.inl ⟨by rw [aCd_1 (by omega)]; omega, S4⟩))
  · have g4 : gSet V a.toInt b.toInt c.toInt = 0 := by omega
    have k4 := gSet_0.mp g4
    refine xald 11 ⟨u272, _, rfl⟩ rfl rfl ?_
    refine xald 12 ⟨u272, _, rfl⟩ rfl rfl ?_
    refine xild 13 ⟨u272, _, rfl⟩ rfl rfl ?_
    refine xild 14 ⟨u272, _, rfl⟩ rfl rfl ?_
    refine xild 15 ⟨u272, _, rfl⟩ rfl rfl ?_
    refine xcall 18 [.ref 66, .int _, .int _, .int _] [.ref 66] hH4 ⟨u272, _, rfl⟩ rfl rfl rfl rfl rfl (k_rrea hH4 (V := V) (T := T) (rowOk_rd S4.1) (x := a.toInt.toNat) (y := b.toInt.toNat) (z := c.toInt.toNat) (by omega) (by omega) (by omega) (by show _ < V; omega) (by show _ < V; omega) (by show _ < V; omega) (fun z15 h15 => ⟨_, rfl, ?_⟩))
    refine xif_eq 21 ⟨u272, _, rfl⟩ rfl (fun c18 => ?_) (fun c18 => ?_)
    · refine xcst 26 (0) ⟨u272, _, rfl⟩ rfl (by decide) (fun z25 h25 => ?_)
      refine xcst 27 (3) ⟨u272, _, rfl⟩ rfl (by decide) (fun z26 h26 => ?_)
      refine xcall 30 [.ref 66, .int _, .int _] [] hH4 ⟨u272, _, rfl⟩ rfl rfl rfl rfl rfl (k_failsE hH4 (by omega) (fun hp27 hH27 V27 => ⟨_, rfl, ?_⟩))
      refine xif_eq 33 ⟨u272, _, rfl⟩ rfl (fun c30 => ?_) (fun c30 => ?_)
      · have hpe : hp4 = hp27 := by
          rcases V27 with ⟨q1, e⟩ | ⟨q1, -⟩
          · exact e.symm
          · omega
        subst hpe
        have fr : sFree T a.toInt.toNat b.toInt.toNat c.toInt.toNat := rsn_0.mp (by omega)
        have cod : aCd V T a.toInt b.toInt c.toInt = 0 := aCd_2 g4 fr
        refine xald 36 ⟨u272, _, rfl⟩ rfl rfl ?_
        refine xcall 39 [.ref 66] [] hH27 ⟨u272, _, rfl⟩ rfl rfl rfl rfl rfl (k_rmS hH27 P4 S4 (fun hp36 hH36 P36 F36 S36 => ⟨_, rfl, ?_⟩))
        refine xald 40 ⟨u272, _, rfl⟩ rfl rfl ?_
        refine xild 41 ⟨u272, _, rfl⟩ rfl rfl ?_
        refine xild 42 ⟨u272, _, rfl⟩ rfl rfl ?_
        refine xild 43 ⟨u272, _, rfl⟩ rfl rfl ?_
        refine xcall 46 [.ref 66, .int _, .int _, .int _] [] hH36 ⟨u272, _, rfl⟩ rfl rfl rfl rfl rfl (k_ptR hH36 P36 S36.1 (x := a.toInt.toNat) (y := b.toInt.toNat) (z := c.toInt.toNat) (by omega) (by omega) (by omega) (by omega) (by omega) (by omega) (by omega) (by omega) (by omega) fr (fun hp43 hH43 P43 F43 C43 => ⟨_, rfl, ?_⟩))
        have S43 := rfS_67 S36 F43 C43
        refine xald 47 ⟨u272, _, rfl⟩ rfl rfl ?_
        refine xcall 50 [.ref 66] [] hH43 ⟨u272, _, rfl⟩ rfl rfl rfl rfl rfl (k_rlst hH43 (V := V) (T := sPut T a.toInt.toNat b.toInt.toNat c.toInt.toNat) (rowOk_rd S43.1) (fun hp47 hH47 F47 B47 L47 => ⟨_, rfl, ?_⟩))
        have S47 := rfS_W S43 F47 (fun _ => rfl) rfl rfl (fun _ => rfl) (fun _ => rfl)
        have P47 : P0 hp47 := P0_W (W := bLT) (by decide) F47 P43
        refine xald 51 ⟨u272, _, rfl⟩ rfl rfl ?_
        refine xcst 52 (1) ⟨u272, _, rfl⟩ rfl (by decide) (fun z51 h51 => ?_)
        refine xild 53 ⟨u272, _, rfl⟩ rfl rfl ?_
        refine xshl 54 ⟨u272, _, rfl⟩ rfl ?_
        refine xcst 55 (1) ⟨u272, _, rfl⟩ rfl (by decide) (fun z54 h54 => ?_)
        refine xild 56 ⟨u272, _, rfl⟩ rfl rfl ?_
        refine xshl 57 ⟨u272, _, rfl⟩ rfl ?_
        refine xor_ 58 ⟨u272, _, rfl⟩ rfl ?_
        refine xcst 59 (1) ⟨u272, _, rfl⟩ rfl (by decide) (fun z58 h58 => ?_)
        refine xild 60 ⟨u272, _, rfl⟩ rfl rfl ?_
        refine xshl 61 ⟨u272, _, rfl⟩ rfl ?_
        refine xor_ 62 ⟨u272, _, rfl⟩ rfl ?_
        have e1 := i_shl h51 (n := a.toInt.toNat) (c := a) (by omega) (by omega)
        have e2 := i_shl h54 (n := b.toInt.toNat) (c := b) (by omega) (by omega)
        have e3 := i_or e1.1 e2.1 e1.2 e2.2
        have e4 := i_shl h58 (n := c.toInt.toNat) (c := c) (by omega) (by omega)
        have e5 := i_or e3.1 e4.1 e3.2 e4.2
        refine xcall 65 [.ref 66, .int _] [] hH47 ⟨u272, _, rfl⟩ rfl rfl rfl rfl rfl (k_rnof hH47 B47 L47 (m := m3 a.toInt.toNat b.toInt.toNat c.toInt.toNat) e5.1 (fun z62 h62 => ⟨_, rfl, ?_⟩))
        exact xret ⟨u272, _, rfl⟩ rfl (hR _ hp47 hH47 P47 ((((bFr_sub F4 (by decide)).trans (bFr_sub F36 (by decide))).trans (bFr_sub F43 (by decide))).trans (bFr_sub F47 (by decide))) (by rw [cod, show rN hp47 66 7 = rN hp43 66 7 from r_fr F47 rfl, show rN hp43 66 7 = rN hp36 66 7 from r_fr F43 rfl, show rN hp36 66 7 = rN hp4 66 7 from r_fr F36 rfl, t4, g4]) (Or.inr ⟨cod, S47, h62⟩))
      · rcases V27 with ⟨q1, -⟩ | ⟨q1, -⟩ <;> omega
    · refine xcst 22 (1) ⟨u272, _, rfl⟩ rfl (by decide) (fun z21 h21 => ?_)
      refine xgoto ⟨u272, _, rfl⟩ ?_
      refine xcst 27 (3) ⟨u272, _, rfl⟩ rfl (by decide) (fun z26 h26 => ?_)
      refine xcall 30 [.ref 66, .int _, .int _] [] hH4 ⟨u272, _, rfl⟩ rfl rfl rfl rfl rfl (k_failsE hH4 (by omega) (fun hp27 hH27 V27 => ⟨_, rfl, ?_⟩))
      refine xif_eq 33 ⟨u272, _, rfl⟩ rfl (fun c30 => ?_) (fun c30 => ?_)
      · rcases V27 with ⟨q1, -⟩ | ⟨q1, -⟩ <;> omega
      · refine xcst 34 (0) ⟨u272, _, rfl⟩ rfl (by decide) (fun z33 h33 => ?_)
        rcases V27 with ⟨q1, -⟩ | ⟨q1, U⟩
        · omega
        · have nf : ¬ sFree T a.toInt.toNat b.toInt.toNat c.toInt.toNat := fun z => by have := rsn_0.mpr z; omega
          exact xret ⟨u272, _, rfl⟩ rfl (hR _ hp27 hH27 (P0_W (W := [(66, 7)]) (by decide) (rU_fr U rfl) P4) ((bFr_sub F4 (by decide)).trans (rU_fr U (by decide))) (by rw [U.1, aCd_3 g4 nf]; exact h26) (Or.inl ⟨by rw [aCd_3 g4 nf]; decide, rfS_W (W := [(66, 7)]) S4 (rU_fr U rfl) (fun _ => rfl) rfl rfl (fun _ => rfl) (fun _ => rfl)⟩))
end
/-! ##### 19.m.046.34a ##### -/
section
/-! ===== sets of three points ===== -/
/-- a set of three points by its bits -/
theorem b3_s {x : Int32} {i : Nat} (hx : x.toInt = (i : Int)) (hi : i < 32768) (h : (bcF x).toInt = 3) : ∃ a b c : Nat, (ntF x).toInt = (a : Int) ∧ (ntF (x &&& (x - 1))).toInt = (b : Int) ∧ a < b ∧ b < c ∧ c < 15 ∧ i = m3 a b c := by
  have e : x = Int32.ofNat i := Int32.toInt_inj.mp (by rw [hx, Int32.toInt_ofNat_of_lt (by omega)])
  have k := b3_all hi
  unfold b3Ok at k
  dsimp only at k
  rw [← e, h] at k
  have k : (decide (0 ≤ (ntF x).toInt) && (decide (0 ≤ (ntF (x &&& (x - 1))).toInt) && (Nat.blt (ntF x).toInt.toNat (ntF (x &&& (x - 1))).toInt.toNat && (Nat.blt (ntF (x &&& (x - 1))).toInt.toNat (ntF ((x &&& (x - 1)) &&& ((x &&& (x - 1)) - 1))).toInt.toNat && (Nat.blt (ntF ((x &&& (x - 1)) &&& ((x &&& (x - 1)) - 1))).toInt.toNat 15 && Nat.beq i (2 ^ (ntF x).toInt.toNat ||| 2 ^ (ntF (x &&& (x - 1))).toInt.toNat ||| 2 ^ (ntF ((x &&& (x - 1)) &&& ((x &&& (x - 1)) - 1))).toInt.toNat)))))) = true := k
  simp only [Bool.and_eq_true, decide_eq_true_eq] at k
  obtain ⟨k0, k1, k2, k3, k4, k5⟩ := k
  have k2 : (ntF x).toInt.toNat < (ntF (x &&& (x - 1))).toInt.toNat := Nat.le_of_ble_eq_true k2
  have k3 : (ntF (x &&& (x - 1))).toInt.toNat < (ntF ((x &&& (x - 1)) &&& ((x &&& (x - 1)) - 1))).toInt.toNat := Nat.le_of_ble_eq_true k3
  have k4 : (ntF ((x &&& (x - 1)) &&& ((x &&& (x - 1)) - 1))).toInt.toNat < 15 := Nat.le_of_ble_eq_true k4
  exact ⟨_, _, _, by omega, by omega, k2, k3, k4, Nat.eq_of_beq_eq_true k5⟩
theorem bc_m3 : ∀ x y z : Fin 15, x.1 < y.1 → y.1 < z.1 → bcN (m3 x.1 y.1 z.1) = 3 := by decide +kernel
/-- three points in their order are known by their set -/
theorem m3_inj {a b c x y z : Nat} (h : m3 a b c = m3 x y z) (h1 : a < b) (h2 : b < c) (h3 : x < y) (h4 : y < z) : a = x ∧ b = y ∧ c = z := by
  have q := m3_eq h
  have q1 := (q a).mp (Or.inl rfl)
  have q2 := (q b).mp (Or.inr (Or.inl rfl))
  have q3 := (q c).mp (Or.inr (Or.inr rfl))
  omega
theorem nm_neg {V : Nat} {T : sT} (hT : sOk V T) {m : Nat} (h : ∀ x y z : Nat, x < y → y < z → m = m3 x y z → ¬ T x y = (z : Int)) : nmT T m = -1 := by
  refine nmF_no _ _ (fun j h1 h2 => fun e => ?_)
  obtain ⟨g1, g2, g3⟩ := trL_get 225 j (show j < (trL T 225).length by omega)
  obtain ⟨z, ez, k1, k2, k3⟩ := tr_pts hT g1
  refine h _ _ z k1 k2 ?_ ez
  rw [← e]
  unfold mk3
  rw [ez, Int.toNat_natCast]
theorem u221 : bUp 0 am_m221.1 = true := by decide +kernel
theorem bc_of {x : Int32} {i : Nat} (hx : x.toInt = (i : Int)) : (bcF x).toInt = bcN i := by
  have : x = Int32.ofNat i := Int32.toInt_inj.mp (by
    have := aMax x
    rw [hx, Int32.toInt_ofNat_of_lt (by omega)])
  unfold bcN
  rw [← this]
theorem k_ntR {d : Nat} {hp : amH} {R : xQ} {x : Int32} (hR : ∀ z : Int32, z.toInt = (ntF x).toInt → R (.inl (some (.int z))) hp) : xK d 342 [.int x] hp R :=
  ⟨am_m342, rfl, w_ntz (hR _ rfl)⟩
/-- whether a set is a triple -/
theorem k_rist {d : Nat} {hp : amH} {R : xQ} {V i : Nat} {T : sT} {x : Int32} (hH : bHk 84 bTT hp) (hB : rdOk hp V T) (hx : x.toInt = (i : Int)) (hi : i < 32768) (hR : ∀ r : Int32, ((r.toInt = 1 ∧ ¬ nmT T i = -1) ∨ (r.toInt = 0 ∧ nmT T i = -1)) → R (.inl (some (.int r))) hp) : xK (d + 1) 221 [.ref 66, .int x] hp R := by
  have hV := hB.2.1.2.1
  refine xin (M := am_m221) rfl rfl rfl ?_
  refine xild 1 ⟨u221, _, rfl⟩ rfl rfl ?_
  refine xcallS 4 [.int _] [] hH ⟨u221, _, rfl⟩ rfl rfl rfl rfl rfl (k_bc hx (fun z1 h1 => ⟨_, rfl, ?_⟩))
  have hbc := bc_of hx
  refine xcst 5 (3) ⟨u221, _, rfl⟩ rfl (by decide) (fun z4 h4 => ?_)
  refine xcmp_eq 8 ⟨u221, _, rfl⟩ rfl (fun c5 => ?_) (fun c5 => ?_)
  · obtain ⟨a, b, c, n1, n2, l1, l2, l3, rfl⟩ := b3_s hx hi (by omega)
    refine xild 11 ⟨u221, _, rfl⟩ rfl rfl ?_
    refine xcallS 14 [.int _] [] hH ⟨u221, _, rfl⟩ rfl rfl rfl rfl rfl (k_ntR (fun z11 h11 => ⟨_, rfl, ?_⟩))
    refine xist 15 ⟨u221, _, rfl⟩ rfl rfl ?_
    refine xild 16 ⟨u221, _, rfl⟩ rfl rfl ?_
    refine xild 17 ⟨u221, _, rfl⟩ rfl rfl ?_
    refine xcst 18 (1) ⟨u221, _, rfl⟩ rfl (by decide) (fun z17 h17 => ?_)
    refine xsub 19 _ ⟨u221, _, rfl⟩ rfl rfl (by omega) (by omega) (fun z18 h18 => ?_)
    have e18 : z18 = x - 1 := Int32.toInt_inj.mp (by rw [Int32.toInt_sub, show (1 : Int32).toInt = 1 by decide, aBmod (by omega) (by omega)]; omega)
    subst e18
    refine xand 20 ⟨u221, _, rfl⟩ rfl ?_
    refine xcallS 23 [.int _] [] hH ⟨u221, _, rfl⟩ rfl rfl rfl rfl rfl (k_ntR (fun z20 h20 => ⟨_, rfl, ?_⟩))
    refine xist 24 ⟨u221, _, rfl⟩ rfl rfl ?_
    refine xald 25 ⟨u221, _, rfl⟩ rfl rfl ?_
    refine xild 26 ⟨u221, _, rfl⟩ rfl rfl ?_
    refine xild 27 ⟨u221, _, rfl⟩ rfl rfl ?_
    refine xcall 30 [.ref 66, .int _, .int _] [] hH ⟨u221, _, rfl⟩ rfl rfl rfl rfl rfl (k_third hH (by omega) (by omega) (by omega) (by omega) (fun z27 h27 => ⟨_, rfl, ?_⟩))
    rw [show z11.toInt.toNat = a by omega, show z20.toInt.toNat = b by omega, hB.2.2.1 a b (by omega) (by omega)] at h27
    refine xist2 32 ⟨u221, _, rfl⟩ rfl rfl ?_
    refine xild2 34 ⟨u221, _, rfl⟩ rfl rfl ?_
    refine xcst 35 (-1) ⟨u221, _, rfl⟩ rfl (by decide) (fun z34 h34 => ?_)
    refine xcmp_eq 38 ⟨u221, _, rfl⟩ rfl (fun c35 => ?_) (fun c35 => ?_)
    · refine xcst 53 (0) ⟨u221, _, rfl⟩ rfl (by decide) (fun z52 h52 => ?_)
      exact xretB ⟨u221, _, rfl⟩ rfl (by omega) (hR _ (Or.inr ⟨h52, nm_no hB.2.1 (by omega) (by omega) (by omega) (by omega)⟩))
    · refine xild 39 ⟨u221, _, rfl⟩ rfl rfl ?_
      refine xild2 41 ⟨u221, _, rfl⟩ rfl rfl ?_
      refine xshr 42 ⟨u221, _, rfl⟩ rfl ?_
      refine xcst 43 (1) ⟨u221, _, rfl⟩ rfl (by decide) (fun z42 h42 => ?_)
      refine xand 44 ⟨u221, _, rfl⟩ rfl ?_
      obtain ⟨w, ew, w1, w2, w3, w4, w5, w6, -⟩ := sOk_at hB.2.1 (rfl : T a b = _) (by omega)
      have hb1 := i_bit hx hi (show z27.toInt = (w : Int) by omega) (by omega) h42
      rw [m3_test] at hb1
      have hb2 : decide (w = a ∨ w = b ∨ w = c) = true ∨ decide (w = a ∨ w = b ∨ w = c) = false := by cases decide (w = a ∨ w = b ∨ w = c) <;> simp
      have hb3 : ((x >>> (z27 &&& 31) &&& z42).toInt = 1 ∧ w = c) ∨ ((x >>> (z27 &&& 31) &&& z42).toInt = 0 ∧ ¬ w = c) := by
        rcases hb2 with g | g
        · rw [g] at hb1; exact Or.inl ⟨hb1, by have := of_decide_eq_true g; omega⟩
        · rw [g] at hb1; exact Or.inr ⟨hb1, by have := of_decide_eq_false g; omega⟩
      refine xcst 45 (1) ⟨u221, _, rfl⟩ rfl (by decide) (fun z44 h44 => ?_)
      refine xcmp_ne 48 ⟨u221, _, rfl⟩ rfl (fun c45 => ?_) (fun c45 => ?_)
      · refine xcst 53 (0) ⟨u221, _, rfl⟩ rfl (by decide) (fun z52 h52 => ?_)
        exact xretB ⟨u221, _, rfl⟩ rfl (by omega) (hR _ (Or.inr ⟨h52, nm_no hB.2.1 (by omega) (by omega) (by omega) (by omega)⟩))
      · refine xcst 49 (1) ⟨u221, _, rfl⟩ rfl (by decide) (fun z48 h48 => ?_)
        refine xgoto ⟨u221, _, rfl⟩ ?_
        exact xretB ⟨u221, _, rfl⟩ rfl (by omega) (hR _ (Or.inl ⟨h48, by obtain ⟨t, t1, t2, t3⟩ := nm_of hB.2.1 (a := a) (b := b) (c := c) (by omega); omega⟩))
  · refine xcst 9 (0) ⟨u221, _, rfl⟩ rfl (by decide) (fun z8 h8 => ?_)
    exact xretB ⟨u221, _, rfl⟩ rfl (by omega) (hR _ (Or.inr ⟨h8, nm_neg hB.2.1 (fun x y z q1 q2 q3 q4 => by obtain ⟨w, ew, w1, w2, w3, -⟩ := sOk_at hB.2.1 q4 (by omega); have e9 : bcN (m3 x y z) = 3 := bc_m3 ⟨x, by omega⟩ ⟨y, by omega⟩ ⟨z, by omega⟩ q1 q2; rw [← q3] at e9; omega)⟩))
end
/-! ##### 19.m.047.34b ##### -/
section
/-! ===== quadrilaterals in their order (pure); the class gathers them ===== -/
/-- the numbers below n that B says -/
def fL (B : Nat → Bool) : Nat → List Nat
  | 0 => []
  | n + 1 => if B n = true then fL B n ++ [n] else fL B n
theorem fL_add {B : Nat → Bool} {n : Nat} (h : B n = true) : fL B (n + 1) = fL B n ++ [n] := by
  show (if B n = true then _ else _) = _
  rw [if_pos h]
theorem fL_skip {B : Nat → Bool} {n : Nat} (h : ¬ B n = true) : fL B (n + 1) = fL B n := by
  show (if B n = true then _ else _) = _
  rw [if_neg h]
theorem fL_no {B : Nat → Bool} {n n1 : Nat} (h : n ≤ n1) (hn : ∀ k, n ≤ k → k < n1 → ¬ B k = true) : fL B n1 = fL B n := by
  induction n1 with
  | zero => rw [show n = 0 by omega]
  | succ m ih =>
    by_cases e : n = m + 1
    · rw [e]
    · rw [fL_skip (hn m (by omega) (by omega))]
      exact ih (by omega) (fun k k1 k2 => hn k k1 (by omega))
theorem fL_mono {B : Nat → Bool} (n : Nat) : ∀ k, (fL B n).length ≤ (fL B (n + k)).length
  | 0 => Nat.le_refl _
  | k + 1 => by
    have := fL_mono (B := B) n k
    have e : fL B (n + (k + 1)) = (if B (n + k) = true then fL B (n + k) ++ [n + k] else fL B (n + k)) := rfl
    rw [e]
    split
    · rw [List.length_append]; omega
    · exact this
theorem fL_le {B : Nat → Bool} {n m : Nat} (h : n ≤ m) : (fL B n).length ≤ (fL B m).length := by
  obtain ⟨k, rfl⟩ := Nat.exists_eq_add_of_le h
  exact fL_mono n k
theorem fL_get {B : Nat → Bool} : ∀ n t, t < (fL B n).length → B ((fL B n).getD t 0) = true ∧ (fL B n).getD t 0 < n ∧ (fL B ((fL B n).getD t 0)).length = t
  | 0, t, h => absurd h (Nat.not_lt_zero t)
  | n + 1, t, h => by
    by_cases hb : B n = true
    · have e : fL B (n + 1) = fL B n ++ [n] := fL_add hb
      rw [e] at h ⊢
      rw [List.length_append, List.length_singleton] at h
      by_cases g : t = (fL B n).length
      · subst g
        rw [gd_end]
        exact ⟨hb, Nat.lt_succ_self n, rfl⟩
      · rw [gd_app (by omega)]
        obtain ⟨g1, g2, g3⟩ := fL_get (B := B) n t (by omega)
        exact ⟨g1, by omega, g3⟩
    · rw [fL_skip hb] at h ⊢
      obtain ⟨g1, g2, g3⟩ := fL_get n t h
      exact ⟨g1, by omega, g3⟩
/-- the set of the triple numbered t -/
def mN (T : sT) (t : Nat) : Nat := mk3 T ((trL T 225).getD t 0)
/-- what three triples leave -/
def qR (T : sT) (n : Nat) : Nat := mN T (n / 1225) ^^^ mN T (n / 35 % 35) ^^^ mN T (n % 35)
/-- three triples, rising, begin a quadrilateral -/
def qdB (T : sT) (n : Nat) : Bool := decide (n / 1225 < n / 35 % 35 ∧ n / 35 % 35 < n % 35 ∧ n % 35 < (trL T 225).length ∧ ¬ mN T (n / 1225) &&& mN T (n / 35 % 35) = 0 ∧ ((n % 35 : Nat) : Int) < nmT T (qR T n))
theorem mN_lt {V : Nat} {T : sT} (hT : sOk V T) {t : Nat} (ht : t < (trL T 225).length) : mN T t < 32768 ∧ ∀ p, (mN T t).testBit p = true → p < V := by
  obtain ⟨g1, g2, g3⟩ := trL_get 225 t ht
  obtain ⟨z, ez, h1, h2, h3⟩ := tr_pts hT g1
  have hV := hT.2.1
  unfold mN mk3
  rw [ez, Int.toNat_natCast]
  refine ⟨(m3_lt (by omega) (by omega) (by omega)), fun p hp => ?_⟩
  rw [m3_test] at hp
  have := of_decide_eq_true hp
  omega
/-- the class's quadrilaterals up to n: how many, their triples, their points -/
def qdN (hp : amH) (T : sT) (n : Nat) : Prop := rN hp 49 0 = (((fL (qdB T) n).length : Nat) : Int) ∧ ∀ q, q < (fL (qdB T) n).length → rJ hp 50 q = ((2 ^ ((fL (qdB T) n).getD q 0 / 1225) ||| 2 ^ ((fL (qdB T) n).getD q 0 / 35 % 35) ||| 2 ^ ((fL (qdB T) n).getD q 0 % 35) ||| 2 ^ (nmT T (qR T ((fL (qdB T) n).getD q 0))).toNat : Nat) : Int) ∧ rN hp 51 q = ((mN T ((fL (qdB T) n).getD q 0 / 1225) ||| mN T ((fL (qdB T) n).getD q 0 / 35 % 35) ||| qR T ((fL (qdB T) n).getD q 0) : Nat) : Int)
theorem qdN_fr {hp hp1 : amH} {T : sT} {n : Nat} (h : qdN hp T n) (F : ∀ c k, c = 49 ∨ c = 50 ∨ c = 51 → bFld hp1 c k = bFld hp c k) : qdN hp1 T n :=
  ⟨(rN_eq (F 49 0 (Or.inl rfl))).trans h.1, fun q hq => ⟨(rJ_eq (F 50 q (Or.inr (Or.inl rfl)))).trans (h.2 q hq).1, (rN_eq (F 51 q (Or.inr (Or.inr rfl)))).trans (h.2 q hq).2⟩⟩
theorem u57 : bUp 0 am_m57.1 = true := by decide +kernel
theorem u58 : bUp 0 am_m58.1 = true := by decide +kernel
theorem k_setL {d t : Nat} {T : sT} {hp : amH} {R : xQ} {a : Int32} (hH : bHk 84 bTT hp) (hL : lsN hp 3 T 225) (ha : a.toInt = (t : Int)) (ht : t < (trL T 225).length) (hR : ∀ z : Int32, z.toInt = ((mN T t : Nat) : Int) → R (.inl (some (.int z))) hp) : xK d 9 [.ref 3, .int a] hp R :=
  k_set (o := 3) (Or.inl rfl) hH (fun z h => hR z (by
    have L1 := hL.1
    rw [h, if_pos (by omega), show a.toInt.toNat = t by omega]
    exact hL.2.1 t ht))
theorem k_kpq {d n i j k l u : Nat} {T : sT} {hp : amH} {R : xQ} {a b c e f : Int32} (hH : bHk 84 bTT hp) (hQ : qdN hp T n) (hb : qdB T n = true) (h105 : (fL (qdB T) (n + 1)).length ≤ 105) (ha : a.toInt = (i : Int)) (hb2 : b.toInt = (j : Int)) (hc : c.toInt = (k : Int)) (he : e.toInt = (l : Int)) (hf : f.toInt = (u : Int)) (hi : n / 1225 = i) (hj : n / 35 % 35 = j) (hk : n % 35 = k) (hl : nmT T (qR T n) = (l : Int)) (hu : u = mN T i ||| mN T j ||| qR T n) (hi2 : i < 35) (hl2 : l < 35)
    (hR : ∀ hp1, bHk 84 bTT hp1 → bFx [49, 50, 51] hp hp1 → qdN hp1 T (n + 1) → R (.inl none) hp1) : xK d 58 [.ref 49, .int a, .int b, .int c, .int e, .int f] hp R := by
  have q1 := rb_c hH (c := 49) (by decide) (show bTT 49 = some (4, 3, [.inl (2147483648, 2147483753), .inr (.inr [50]), .inr (.inr [51])]) from rfl) (f := 0) rfl (by decide)
  have em := aMin f
  have ex := aMax f
  rw [fL_add hb, List.length_append, List.length_singleton] at h105
  obtain ⟨Q1, Q2⟩ := id hQ
  refine xin (M := am_m58) rfl rfl rfl ?_
  refine xald 1 ⟨u58, _, rfl⟩ rfl rfl ?_
  refine xgetC 4 hH ⟨u58, _, rfl⟩ rfl (by decide) (by decide) rfl rfl (by decide) (fun z1 h1 => ?_)
  refine xbip 6 (105) ⟨u58, _, rfl⟩ rfl (by decide) (fun z4 h4 => ?_)
  refine xcmp_ge 9 ⟨u58, _, rfl⟩ rfl (fun c6 => ?_) (fun c6 => ?_)
  · omega
  · refine xald 10 ⟨u58, _, rfl⟩ rfl rfl ?_
    refine xgetD 13 (50) hH ⟨u58, _, rfl⟩ rfl (by decide) (by decide) rfl rfl (by decide) ?_
    refine xald 14 ⟨u58, _, rfl⟩ rfl rfl ?_
    refine xgetC 17 hH ⟨u58, _, rfl⟩ rfl (by decide) (by decide) rfl rfl (by decide) (fun z14 h14 => ?_)
    refine xlcst 18 (1) ⟨u58, _, rfl⟩ rfl (by decide) (fun z17 h17 => ?_)
    refine xild 19 ⟨u58, _, rfl⟩ rfl rfl ?_
    refine xlshl 20 ⟨u58, _, rfl⟩ rfl ?_
    refine xlcst 21 (1) ⟨u58, _, rfl⟩ rfl (by decide) (fun z20 h20 => ?_)
    refine xild 22 ⟨u58, _, rfl⟩ rfl rfl ?_
    refine xlshl 23 ⟨u58, _, rfl⟩ rfl ?_
    refine xlor 24 ⟨u58, _, rfl⟩ rfl ?_
    refine xlcst 25 (1) ⟨u58, _, rfl⟩ rfl (by decide) (fun z24 h24 => ?_)
    refine xild 26 ⟨u58, _, rfl⟩ rfl rfl ?_
    refine xlshl 27 ⟨u58, _, rfl⟩ rfl ?_
    refine xlor 28 ⟨u58, _, rfl⟩ rfl ?_
    refine xlcst 29 (1) ⟨u58, _, rfl⟩ rfl (by decide) (fun z28 h28 => ?_)
    refine xild2 31 ⟨u58, _, rfl⟩ rfl rfl ?_
    refine xlshl 32 ⟨u58, _, rfl⟩ rfl ?_
    refine xlor 33 ⟨u58, _, rfl⟩ rfl ?_
    have w1 := j_shl h17 ha (by omega)
    have w2 := j_shl h20 hb2 (by omega)
    have w3 := j_or w1 w2
    have w4 := j_shl h24 hc (by omega)
    have w5 := j_or w3 w4
    have w6 := j_shl h28 he (by omega)
    have w7 := j_or w5 w6
    refine xlast 34 (z14).toInt.toNat hH ⟨u58, _, rfl⟩ rfl (by decide) rfl (by omega) (by omega) (fun hp33 hH33 U33 => ?_)
    have e33 : rN hp33 49 0 = rN hp 49 0 := rV_ne U33 (by omega)
    refine xald 35 ⟨u58, _, rfl⟩ rfl rfl ?_
    refine xgetD 38 (51) hH33 ⟨u58, _, rfl⟩ rfl (by decide) (by decide) rfl rfl (by decide) ?_
    refine xald 39 ⟨u58, _, rfl⟩ rfl rfl ?_
    refine xgetC 42 hH33 ⟨u58, _, rfl⟩ rfl (by decide) (by decide) rfl rfl (by decide) (fun z39 h39 => ?_)
    refine xild2 44 ⟨u58, _, rfl⟩ rfl rfl ?_
    refine xiast 45 (z39).toInt.toNat hH33 ⟨u58, _, rfl⟩ rfl (by decide) rfl (by omega) (by omega) (by omega) (by omega) (fun hp44 hH44 U44 => ?_)
    have s44 := U44.1
    have e44 : rN hp44 49 0 = rN hp 49 0 := (rU_ne U44 (by omega)).trans e33
    refine xald 46 ⟨u58, _, rfl⟩ rfl rfl ?_
    refine xdup 47 ⟨u58, _, rfl⟩ rfl rfl ?_
    refine xgetC 50 hH44 ⟨u58, _, rfl⟩ rfl (by decide) (by decide) rfl rfl (by decide) (fun z47 h47 => ?_)
    refine xcst 51 (1) ⟨u58, _, rfl⟩ rfl (by decide) (fun z50 h50 => ?_)
    refine xadd 52 _ ⟨u58, _, rfl⟩ rfl rfl (by omega) (by omega) (fun z51 h51 => ?_)
    refine xputC 55 hH44 ⟨u58, _, rfl⟩ rfl (by decide) (by decide) rfl rfl (by decide) ⟨rfl, rfl⟩ (by omega) (by omega) (fun hp52 hH52 U52 => ?_)
    have s52 := U52.1
    have s33 := rV_J U33
    refine xretV ⟨u58, _, rfl⟩ rfl (hR hp52 hH52 (((bY_bx U33 (by simp)).trans (bFx_U U44 (by simp))).trans (bFx_U U52 (by simp))) ⟨by rw [fL_add hb, List.length_append, List.length_singleton]; omega, fun q hq => ?_⟩)
    rw [fL_add hb, List.length_append, List.length_singleton] at hq
    rw [fL_add hb]
    by_cases g : q = (fL (qdB T) n).length
    · subst g
      rw [gd_end, hi, hj, hk, hl, Int.toNat_natCast]
      refine ⟨?_, ?_⟩
      · rw [rJ_ne U52 (by omega), rJ_ne U44 (by omega), show (fL (qdB T) n).length = z14.toInt.toNat by omega, s33]
        exact w7
      · rw [rU_ne U52 (by omega), show (fL (qdB T) n).length = z39.toInt.toNat by omega, U44.1, hf, hu]
    · rw [gd_app (by omega)]
      obtain ⟨k1, k2⟩ := Q2 q (by omega)
      refine ⟨?_, ?_⟩
      · rw [rJ_ne U52 (by omega), rJ_ne U44 (by omega), rJ_eq (U33.2 50 q (by omega))]
        exact k1
      · rw [rU_ne U52 (by omega), rU_ne U44 (by omega), rV_ne U33 (by omega)]
        exact k2
end
