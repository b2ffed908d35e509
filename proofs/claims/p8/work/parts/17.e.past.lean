/-! ===== ways by hand: rows copied, remembered, brought back ===== -/
theorem u198 : bUp 0 am_m198.1 = true := by decide +kernel
theorem u200 : bUp 0 am_m200.1 = true := by decide +kernel
theorem u201 : bUp 0 am_m201.1 = true := by decide +kernel
theorem u202 : bUp 0 am_m202.1 = true := by decide +kernel
theorem u277 : bUp 0 am_m277.1 = true := by decide +kernel
theorem u339 : bUp 0 am_m339.1 = true := by decide +kernel
theorem u340 : bUp 0 am_m340.1 = true := by decide +kernel
theorem u341 : bUp 0 am_m341.1 = true := by decide +kernel
theorem k_copy {d : Nat} {hp : amH} {R : xQ} {p q kp kq : Nat} {a b n : Int32} (s0 d0 N : Nat) (hH : bHk 84 bTT hp) (hp84 : p < 84) (hq84 : q < 84) (hpq : ¬ p = q) (hTp : bTT p = some (32, kp, [.inl (0, 4294967295)])) (hTq : bTT q = some (32, kq, [.inl (0, 4294967295)])) (ha : a.toInt = (s0 : Int)) (hb : b.toInt = (d0 : Int)) (hn : n.toInt = (N : Int)) (hs : s0 + N ≤ kp) (hd : d0 + N ≤ kq) (hk : kp ≤ 100000 ∧ kq ≤ 100000)
    (hR : ∀ hp1, bHk 84 bTT hp1 → bFr [(q, 999)] hp hp1 → (∀ i, i < kq → rN hp1 q i = if d0 ≤ i ∧ i < d0 + N then rN hp p (s0 + (i - d0)) else rN hp q i) → R (.inl none) hp1) : xK d 198 [.ref p, .int a, .ref q, .int b, .int n] hp R := by
  obtain ⟨hp1, h1, h2, h3, h4⟩ := r_copy hH hp84 hq84 hpq hTp hTq ha hb hn hs hd hk d
  exact ⟨am_m198, rfl, _, .inl none, hp1, h1, hR hp1 h2 h3 h4⟩
/-- the rows that are remembered, moved down by one -/
theorem sh_loop {d : Nat} {hp : amH} {R : xQ} {a b n : Int32} (ha : a.toInt = 229) (hb : b.toInt = 0) (hn : n.toInt = 2061) (hR : ∀ hp1, bHk 84 bTT hp1 → bFr [(71, 999)] hp hp1 → (∀ i, i < 2061 → rN hp1 71 i = rN hp 71 (229 + i)) → R (.inl none) hp1) :
    ∀ (j k : Nat) (hpk : amH) (kk : Int32), k + j = 2061 → kk.toInt = (k : Int) → bHk 84 bTT hpk → bFr [(71, 999)] hp hpk → (∀ i, i < 2290 → rN hpk 71 i = if i < k then rN hp 71 (229 + i) else rN hp 71 i) →
      xV d am_m198 3 [some (.ref 71), some (.int a), some (.ref 71), some (.int b), some (.int n), some (.int kk)] [] hpk R := by
  intro j
  induction j with
  | zero =>
    intro k hpk kk hk hkk hH hF hI
    refine xild2 5 ⟨u198, _, rfl⟩ rfl rfl ?_
    refine xild2 7 ⟨u198, _, rfl⟩ rfl rfl ?_
    refine xcmp_ge 10 ⟨u198, _, rfl⟩ rfl (fun c7 => ?_) (fun c7 => absurd c7 (by omega))
    exact xretV ⟨u198, _, rfl⟩ rfl (hR hpk hH hF (fun i hi => by rw [hI i (by omega), if_pos (by omega)]))
  | succ j ih =>
    intro k hpk kk hk hkk hH hF hI
    refine xild2 5 ⟨u198, _, rfl⟩ rfl rfl ?_
    refine xild2 7 ⟨u198, _, rfl⟩ rfl rfl ?_
    refine xcmp_ge 10 ⟨u198, _, rfl⟩ rfl (fun c7 => absurd c7 (by omega)) (fun c7 => ?_)
    refine xald 11 ⟨u198, _, rfl⟩ rfl rfl ?_
    refine xild 12 ⟨u198, _, rfl⟩ rfl rfl ?_
    refine xild2 14 ⟨u198, _, rfl⟩ rfl rfl ?_
    refine xadd 15 k ⟨u198, _, rfl⟩ rfl (by omega) (by omega) (by omega) (fun z14 h14 => ?_)
    refine xald 16 ⟨u198, _, rfl⟩ rfl rfl ?_
    refine xild 17 ⟨u198, _, rfl⟩ rfl rfl ?_
    refine xild2 19 ⟨u198, _, rfl⟩ rfl rfl ?_
    refine xadd 20 (229 + k) ⟨u198, _, rfl⟩ rfl (by omega) (by omega) (by omega) (fun z19 h19 => ?_)
    refine xiald 21 (229 + k) hH ⟨u198, _, rfl⟩ rfl (by decide) rfl (by omega) (by omega) (fun z20 h20 => ?_)
    have b1 := aMin z20
    have b2 := aMax z20
    refine xiast 22 k hH ⟨u198, _, rfl⟩ rfl (by decide) rfl (by omega) (by omega) (by omega) (by omega) (fun hp21 hH21 U21 => ?_)
    refine xinc 25 (1) ⟨u198, _, rfl⟩ rfl rfl rfl (by decide) (by omega) (by omega) (fun z22 h22 => ?_)
    refine xgoto ⟨u198, _, rfl⟩ ?_
    refine ih (k + 1) hp21 z22 (by omega) (by omega) hH21 (hF.trans (rU_fr U21 (bIn_all (by decide) k))) (fun i hi => ?_)
    by_cases hik : i = k
    · subst hik
      rw [U21.1, h20, hI _ (by omega), if_neg (by omega), if_pos (by omega)]
    · rw [rU_ne U21 (by omega), hI i hi]
      by_cases h : i < k
      · rw [if_pos h, if_pos (by omega)]
      · rw [if_neg h, if_neg (by omega)]
theorem k_shift {d : Nat} {hp : amH} {R : xQ} {a b n : Int32} (hH : bHk 84 bTT hp) (ha : a.toInt = 229) (hb : b.toInt = 0) (hn : n.toInt = 2061) (hR : ∀ hp1, bHk 84 bTT hp1 → bFr [(71, 999)] hp hp1 → (∀ i, i < 2061 → rN hp1 71 i = rN hp 71 (229 + i)) → R (.inl none) hp1) : xK d 198 [.ref 71, .int a, .ref 71, .int b, .int n] hp R := by
  refine xin (M := am_m198) rfl rfl rfl ?_
  refine xcst 1 (0) ⟨u198, _, rfl⟩ rfl (by decide) (fun z0 h0 => ?_)
  refine xist2 3 ⟨u198, _, rfl⟩ rfl rfl ?_
  exact sh_loop ha hb hn hR 2061 0 hp z0 rfl (by omega) hH (bFr.refl _ _) (fun i hi => by rw [if_neg (by omega)])
def wRem : List (Nat × Nat) := [(71, 999), (66, 5)]
theorem bIn_ne {c c1 k i : Nat} (h : ¬ c1 = c) : bIn [(c, k)] c1 i = false := by
  simp only [bIn]
  cases hb : Nat.beq c c1
  · rfl
  · exact absurd (Nat.eq_of_beq_eq_true hb).symm h
theorem bIn_h {c k : Nat} : ∀ {W : List (Nat × Nat)} {i : Nat}, (c, k) ∈ W → (k = i ∨ k = 999) → bIn W c i = true
  | p :: r, i, h, hk => by
    unfold bIn
    cases hb : Nat.beq p.1 c
    · dsimp only
      rcases List.mem_cons.mp h with z | z
      · rw [← z] at hb
        rw [Nat.beq_refl] at hb
        cases hb
      · exact bIn_h z hk
    · dsimp only
      cases hb2 : Nat.beq p.2 i
      · dsimp only
        cases hb3 : Nat.beq p.2 999
        · dsimp only
          rcases List.mem_cons.mp h with z | z
          · rw [← z] at hb2 hb3
            rcases hk with u | u
            · subst u; rw [Nat.beq_refl] at hb2; cases hb2
            · subst u; rw [Nat.beq_refl] at hb3; cases hb3
          · exact bIn_h z hk
        · rfl
      · rfl
/-- what is written in one place, is written among many -/
theorem bFr_in {c k : Nat} {W : List (Nat × Nat)} {hp hp1 : amH} (h : bFr [(c, k)] hp hp1) (hW : (c, k) ∈ W) : bFr W hp hp1 := bFr_up h (fun c1 i hi => by
  obtain ⟨p, g1, g2, g3⟩ := bIn_mem hi
  have : p = (c, k) := by simpa using g1
  subst this
  dsimp only at g2 g3
  subst g2
  exact bIn_h hW g3)
theorem bFr_sub {W W1 : List (Nat × Nat)} {hp hp1 : amH} (h : bFr W hp hp1) (hW : ∀ p ∈ W, p ∈ W1) : bFr W1 hp hp1 := bFr_up h (fun c1 i hi => by
  obtain ⟨p, g1, g2, g3⟩ := bIn_mem hi
  subst g2
  exact bIn_h (hW p g1) g3)
theorem k_rem {d : Nat} {hp : amH} {R : xQ} (hH : bHk 84 bTT hp) (hP : P0 hp) (hR : ∀ hp1, bHk 84 bTT hp1 → P0 hp1 → bFr wRem hp hp1 → R (.inl none) hp1) : xK (d + 1) 200 [.ref 66] hp R := by
  refine xin (M := am_m200) rfl rfl rfl ?_
  have j37 : ∀ hp1, bHk 84 bTT hp1 → P0 hp1 → bFr wRem hp hp1 → rN hp1 66 5 ≤ 9 → xV (d + 1) am_m200 37 [some (.ref 66)] [] hp1 R := by
    intro hp1 hH1 hP1 hF1 h9
    have hb := rb_fld hH1 (f := 5) (lo := 2147483648) (hi := 2147483658) rfl
    obtain ⟨m, hm⟩ : ∃ m : Nat, rN hp1 66 5 = (m : Int) := ⟨(rN hp1 66 5).toNat, by omega⟩
    refine xald 38 ⟨u200, _, rfl⟩ rfl rfl ?_
    refine xgetR 41 67 hH1 ⟨u200, _, rfl⟩ rfl rfl ?_
    refine xcst 42 (0) ⟨u200, _, rfl⟩ rfl (by decide) (fun z41 h41 => ?_)
    refine xald 43 ⟨u200, _, rfl⟩ rfl rfl ?_
    refine xgetR 46 71 hH1 ⟨u200, _, rfl⟩ rfl rfl ?_
    refine xsip 49 (229) ⟨u200, _, rfl⟩ rfl (by decide) (fun z46 h46 => ?_)
    refine xald 50 ⟨u200, _, rfl⟩ rfl rfl ?_
    refine xgetI 53 hH1 ⟨u200, _, rfl⟩ rfl rfl (fun z50 h50 => ?_)
    refine xmul 54 (229 * Int32.toInt z50) ⟨u200, _, rfl⟩ rfl (by rw [h46]) (by omega) (by omega) (fun z53 h53 => ?_)
    refine xsip 57 (229) ⟨u200, _, rfl⟩ rfl (by decide) (fun z54 h54 => ?_)
    refine xcallS 60 [.ref 67, .int _, .ref 71, .int _, .int _] [] hH1 ⟨u200, _, rfl⟩ rfl rfl rfl rfl rfl (k_copy 0 (229 * m) 229 hH1 (by decide) (by decide) (by decide) rfl rfl (by omega) (by omega) (by omega) (by omega) (by omega) (by decide) (fun hp2 hH2 F2 E2 => ⟨_, rfl, ?_⟩))
    refine xald 61 ⟨u200, _, rfl⟩ rfl rfl ?_
    refine xdup 62 ⟨u200, _, rfl⟩ rfl rfl ?_
    have e5 : rN hp2 66 5 = rN hp1 66 5 := r_fr F2 (bIn_ne (by decide))
    refine xgetI 65 hH2 ⟨u200, _, rfl⟩ rfl rfl (fun z62 h62 => ?_)
    refine xcst 66 (1) ⟨u200, _, rfl⟩ rfl (by decide) (fun z65 h65 => ?_)
    refine xadd 67 (m + 1) ⟨u200, _, rfl⟩ rfl (by omega) (by omega) (by omega) (fun z66 h66 => ?_)
    refine xputI 70 hH2 ⟨u200, _, rfl⟩ rfl rfl ⟨rfl, rfl⟩ (by omega) (by omega) (fun hp3 hH3 U3 => ?_)
    have e : ∀ c i, ¬ c = 71 → ¬ (c = 66 ∧ i = 5) → rN hp3 c i = rN hp1 c i := fun c i h1 h2 => (rU_ne U3 h2).trans (r_fr F2 (bIn_ne h1))
    refine xretV ⟨u200, _, rfl⟩ rfl (hR hp3 hH3 ?_ (hF1.trans ((bFr_in F2 (by simp [wRem])).trans (rU_fr U3 rfl))))
    refine ⟨Vf_eq (fun i _ => e 67 i (by decide) (by omega)) hP1.1, fun z => Vf_eq (fun i _ => e 70 i (by decide) (by omega)) (hP1.2.1 (by rw [← e 66 6 (by decide) (by omega)]; exact z)), fun k hk hk2 => ?_, fun z => Vf_eq (fun i _ => e 69 i (by decide) (by omega)) (hP1.2.2.2 (by rw [← e 69 0 (by decide) (by omega)]; exact z))⟩
    rw [U3.1] at hk
    by_cases hkm : k = m
    · subst hkm
      refine Vf_eq (r := rN hp1 67) (fun i hi => ?_) hP1.1
      rw [rU_ne U3 (by omega), E2 _ (by omega), if_pos (by omega), show 0 + (229 * k + i - 229 * k) = i by omega]
    · refine Vf_eq (r := fun i => rN hp1 71 (229 * k + i)) (fun i hi => ?_) (hP1.2.2.1 k (by omega) hk2)
      rw [rU_ne U3 (by omega), E2 _ (by omega), if_neg (by omega)]
  refine xald 1 ⟨u200, _, rfl⟩ rfl rfl ?_
  refine xgetI 4 hH ⟨u200, _, rfl⟩ rfl rfl (fun z1 h1 => ?_)
  have hb := rb_fld hH (f := 5) (lo := 2147483648) (hi := 2147483658) rfl
  refine xbip 6 (10) ⟨u200, _, rfl⟩ rfl (by decide) (fun z4 h4 => ?_)
  refine xcmp_ne 9 ⟨u200, _, rfl⟩ rfl (fun c6 => ?_) (fun c6 => ?_)
  · exact j37 hp hH hP (bFr.refl _ _) (by omega)
  · refine xald 10 ⟨u200, _, rfl⟩ rfl rfl ?_
    refine xgetR 13 71 hH ⟨u200, _, rfl⟩ rfl rfl ?_
    refine xsip 16 (229) ⟨u200, _, rfl⟩ rfl (by decide) (fun z13 h13 => ?_)
    refine xald 17 ⟨u200, _, rfl⟩ rfl rfl ?_
    refine xgetR 20 71 hH ⟨u200, _, rfl⟩ rfl rfl ?_
    refine xcst 21 (0) ⟨u200, _, rfl⟩ rfl (by decide) (fun z20 h20 => ?_)
    refine xsip 24 (2061) ⟨u200, _, rfl⟩ rfl (by decide) (fun z21 h21 => ?_)
    refine xcallS 27 [.ref 71, .int _, .ref 71, .int _, .int _] [] hH ⟨u200, _, rfl⟩ rfl rfl rfl rfl rfl (k_shift hH h13 h20 h21 (fun hp2 hH2 F2 E2 => ⟨_, rfl, ?_⟩))
    refine xald 28 ⟨u200, _, rfl⟩ rfl rfl ?_
    refine xdup 29 ⟨u200, _, rfl⟩ rfl rfl ?_
    have e5 : rN hp2 66 5 = rN hp 66 5 := r_fr F2 (bIn_ne (by decide))
    refine xgetI 32 hH2 ⟨u200, _, rfl⟩ rfl rfl (fun z29 h29 => ?_)
    refine xcst 33 (1) ⟨u200, _, rfl⟩ rfl (by decide) (fun z32 h32 => ?_)
    refine xsub 34 9 ⟨u200, _, rfl⟩ rfl (by omega) (by omega) (by omega) (fun z33 h33 => ?_)
    refine xputI 37 hH2 ⟨u200, _, rfl⟩ rfl rfl ⟨rfl, rfl⟩ (by omega) (by omega) (fun hp3 hH3 U3 => ?_)
    have e : ∀ c i, ¬ c = 71 → ¬ (c = 66 ∧ i = 5) → rN hp3 c i = rN hp c i := fun c i h1 h2 => (rU_ne U3 h2).trans (r_fr F2 (bIn_ne h1))
    refine j37 hp3 hH3 ?_ ((bFr_in F2 (by simp [wRem])).trans (rU_fr U3 rfl)) (by rw [U3.1]; omega)
    refine ⟨Vf_eq (fun i _ => e 67 i (by decide) (by omega)) hP.1, fun z => Vf_eq (fun i _ => e 70 i (by decide) (by omega)) (hP.2.1 (by rw [← e 66 6 (by decide) (by omega)]; exact z)), fun k hk hk2 => ?_, fun z => Vf_eq (fun i _ => e 69 i (by decide) (by omega)) (hP.2.2.2 (by rw [← e 69 0 (by decide) (by omega)]; exact z))⟩
    rw [U3.1, h33] at hk
    refine Vf_eq (r := fun i => rN hp 71 (229 * (k + 1) + i)) (fun i hi => ?_) (hP.2.2.1 (k + 1) (by omega) (by omega))
    rw [rU_ne U3 (by omega), E2 _ (by omega), show 229 + (229 * k + i) = 229 * (k + 1) + i by omega]
/-- removes: the triple that covers a pair goes -/
theorem k_removes {d : Nat} {hp : amH} {R : xQ} {a b : Int32} (hH : bHk 84 bTT hp) (hP : P0 hp) (a1 : 0 ≤ a.toInt) (a2 : a.toInt < 15) (b1 : 0 ≤ b.toInt) (b2 : b.toInt < 15)
    (hR : ∀ (z : Int32) hp1, bHk 84 bTT hp1 → P0 hp1 → bFr [(67, 999)] hp hp1 → (0 ≤ z.toInt ∧ z.toInt ≤ 1) → rN hp1 67 0 = rN hp 67 0 → tT hp1 a.toInt.toNat b.toInt.toNat = -1 → (∀ u v, u < 15 → v < 15 → tT hp u v = -1 → tT hp1 u v = -1) → R (.inl (some (.int z))) hp1) : xK (d + 2) 277 [.ref 66, .int a, .int b] hp R := by
  refine xin (M := am_m277) rfl rfl rfl ?_
  refine xald 1 ⟨u277, _, rfl⟩ rfl rfl ?_
  refine xild 2 ⟨u277, _, rfl⟩ rfl rfl ?_
  refine xild 3 ⟨u277, _, rfl⟩ rfl rfl ?_
  refine xcall 6 [.ref 66, .int _, .int _] [] hH ⟨u277, _, rfl⟩ rfl rfl rfl rfl rfl (k_third hH (by omega) (by omega) (by omega) (by omega) (fun z3 h3 => ⟨_, rfl, ?_⟩))
  refine xist 7 ⟨u277, _, rfl⟩ rfl rfl ?_
  refine xild 8 ⟨u277, _, rfl⟩ rfl rfl ?_
  refine xcst 9 (-1) ⟨u277, _, rfl⟩ rfl (by decide) (fun z8 h8 => ?_)
  refine xcmp_ne 12 ⟨u277, _, rfl⟩ rfl (fun c9 => ?_) (fun c9 => ?_)
  · refine xald 15 ⟨u277, _, rfl⟩ rfl rfl ?_
    refine xild 16 ⟨u277, _, rfl⟩ rfl rfl ?_
    refine xild 17 ⟨u277, _, rfl⟩ rfl rfl ?_
    refine xild 18 ⟨u277, _, rfl⟩ rfl rfl ?_
    have hc : 0 ≤ z3.toInt := by
      rcases Vf_m hP.1 (a := a.toInt.toNat) (b := b.toInt.toNat) (by omega) (by omega) with g | ⟨c, -, g⟩ <;> omega
    refine xcall 21 [.ref 66, .int _, .int _, .int _] [] hH ⟨u277, _, rfl⟩ rfl rfl rfl rfl rfl (k_take hH hP a1 a2 b1 b2 h3.symm hc (fun hp1 hH1 hP1 F1 E1 T1 => ⟨_, rfl, ?_⟩))
    refine xcst 22 (1) ⟨u277, _, rfl⟩ rfl (by decide) (fun z21 h21 => ?_)
    have hne : ¬ a.toInt.toNat = b.toInt.toNat := fun z => by
      rw [z, Vf_self hP.1 (by omega)] at h3
      omega
    refine xret ⟨u277, _, rfl⟩ rfl (hR _ hp1 hH1 hP1 F1 (by omega) (E1 0 (by omega)) (by rw [T1 _ _ (by omega) (by omega), if_pos ⟨hne, Or.inl rfl, Or.inr (Or.inl rfl)⟩]) (fun u v hu hv h => ?_))
    rw [T1 u v hu hv]
    split
    · rfl
    · exact h
  · refine xcst 13 (0) ⟨u277, _, rfl⟩ rfl (by decide) (fun z12 h12 => ?_)
    exact xret ⟨u277, _, rfl⟩ rfl (hR _ hp hH hP (bFr.refl _ _) (by omega) rfl (by omega) (fun u v _ _ h => h))
