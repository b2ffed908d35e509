/-! ===== ways by hand: rows copied, remembered, brought back ===== -/
theorem u198 : bUp 0 am_m198.1 = true := by decide +kernel
theorem u200 : bUp 0 am_m200.1 = true := by decide +kernel
theorem u201 : bUp 0 am_m201.1 = true := by decide +kernel
theorem u202 : bUp 0 am_m202.1 = true := by decide +kernel
theorem u277 : bUp 0 am_m277.1 = true := by decide +kernel
theorem u339 : bUp 0 am_m339.1 = true := by decide +kernel
theorem u340 : bUp 0 am_m340.1 = true := by decide +kernel
theorem u341 : bUp 0 am_m341.1 = true := by decide +kernel
theorem k_copy {d : Nat} {hp : amH} {R : xQ} {p q kp kq : Nat} {a b n : Int32} (s0 d0 N : Nat) (hH : bHk 84 bTT hp) (hp84 : p < 84) (hq84 : q < 84) (hpq : ¬ p = q) (hTp : bTT p = some (32, kp, [.inl (0, 4294967295)])) (hTq : bTT q = some (32, kq, [.inl (0, 4294967295)])) (ha : a.toInt = (s0 : Int)) (hb : b.toInt = (d0 : Int)) (hn : n.toInt = (N : Int)) (hs : s0 + N ≤ kp) (hd : d0 + N ≤ kq) (hk : kp ≤ 100000 ∧ kq ≤ 100000)
    (hR : ∀ hp1, bHk 84 bTT hp1 → bFr [(q, 999)] hp hp1 → (∀ i, i < kq → rN hp1 q i = if d0 ≤ i ∧ i < d0 + N then rN hp p (s0 + (i - d0)) else rN hp q i) → R (.inl none) hp1) : xK d 198 [.ref p, .int a, .ref q, .int b, .int n] hp R := by
  obtain ⟨hp1, h1, h2, h3, h4⟩ := r_copy hH hp84 hq84 hpq hTp hTq ha hb hn hs hd hk d
  exact ⟨am_m198, rfl, _, .inl none, hp1, h1, hR hp1 h2 h3 h4⟩
/-- the rows that are remembered, moved down by one -/
theorem sh_loop {d : Nat} {hp : amH} {R : xQ} {a b n : Int32} (ha : a.toInt = 229) (hb : b.toInt = 0) (hn : n.toInt = 2061) (hR : ∀ hp1, bHk 84 bTT hp1 → bFr [(71, 999)] hp hp1 → (∀ i, i < 2061 → rN hp1 71 i = rN hp 71 (229 + i)) → R (.inl none) hp1) :
    ∀ (j k : Nat) (hpk : amH) (kk : Int32), k + j = 2061 → kk.toInt = (k : Int) → bHk 84 bTT hpk → bFr [(71, 999)] hp hpk → (∀ i, i < 2290 → rN hpk 71 i = if i < k then rN hp 71 (229 + i) else rN hp 71 i) →
      xV d am_m198 3 [some (.ref 71), some (.int a), some (.ref 71), some (.int b), some (.int n), some (.int kk)] [] hpk R := by
  intro j
  induction j with
  | zero =>
    intro k hpk kk hk hkk hH hF hI
    refine xild2 5 ⟨u198, _, rfl⟩ rfl rfl ?_
    refine xild2 7 ⟨u198, _, rfl⟩ rfl rfl ?_
    refine xcmp_ge 10 ⟨u198, _, rfl⟩ rfl (fun c7 => ?_) (fun c7 => absurd c7 (by omega))
    exact xretV ⟨u198, _, rfl⟩ rfl (hR hpk hH hF (fun i hi => by rw [hI i (by omega), if_pos (by omega)]))
  | succ j ih =>
    intro k hpk kk hk hkk hH hF hI
    refine xild2 5 ⟨u198, _, rfl⟩ rfl rfl ?_
    refine xild2 7 ⟨u198, _, rfl⟩ rfl rfl ?_
    refine xcmp_ge 10 ⟨u198, _, rfl⟩ rfl (fun c7 => absurd c7 (by omega)) (fun c7 => ?_)
    refine xald 11 ⟨u198, _, rfl⟩ rfl rfl ?_
    refine xild 12 ⟨u198, _, rfl⟩ rfl rfl ?_
    refine xild2 14 ⟨u198, _, rfl⟩ rfl rfl ?_
    refine xadd 15 k ⟨u198, _, rfl⟩ rfl (by omega) (by omega) (by omega) (fun z14 h14 => ?_)
    refine xald 16 ⟨u198, _, rfl⟩ rfl rfl ?_
    refine xild 17 ⟨u198, _, rfl⟩ rfl rfl ?_
    refine xild2 19 ⟨u198, _, rfl⟩ rfl rfl ?_
    refine xadd 20 (229 + k) ⟨u198, _, rfl⟩ rfl (by omega) (by omega) (by omega) (fun z19 h19 => ?_)
    refine xiald 21 (229 + k) hH ⟨u198, _, rfl⟩ rfl (by decide) rfl (by omega) (by omega) (fun z20 h20 => ?_)
    have b1 := aMin z20
    have b2 := aMax z20
    refine xiast 22 k hH ⟨u198, _, rfl⟩ rfl (by decide) rfl (by omega) (by omega) (by omega) (by omega) (fun hp21 hH21 U21 => ?_)
    refine xinc 25 (1) ⟨u198, _, rfl⟩ rfl rfl rfl (by decide) (by omega) (by omega) (fun z22 h22 => ?_)
    refine xgoto ⟨u198, _, rfl⟩ ?_
    refine ih (k + 1) hp21 z22 (by omega) (by omega) hH21 (hF.trans (rU_fr U21 (bIn_all (by decide) k))) (fun i hi => ?_)
    by_cases hik : i = k
    · subst hik
      rw [U21.1, h20, hI _ (by omega), if_neg (by omega), if_pos (by omega)]
    · rw [rU_ne U21 (by omega), hI i hi]
      by_cases h : i < k
      · rw [if_pos h, if_pos (by omega)]
      · rw [if_neg h, if_neg (by omega)]
theorem k_shift {d : Nat} {hp : amH} {R : xQ} {a b n : Int32} (hH : bHk 84 bTT hp) (ha : a.toInt = 229) (hb : b.toInt = 0) (hn : n.toInt = 2061) (hR : ∀ hp1, bHk 84 bTT hp1 → bFr [(71, 999)] hp hp1 → (∀ i, i < 2061 → rN hp1 71 i = rN hp 71 (229 + i)) → R (.inl none) hp1) : xK d 198 [.ref 71, .int a, .ref 71, .int b, .int n] hp R := by
  refine xin (M := am_m198) rfl rfl rfl ?_
  refine xcst 1 (0) ⟨u198, _, rfl⟩ rfl (by decide) (fun z0 h0 => ?_)
  refine xist2 3 ⟨u198, _, rfl⟩ rfl rfl ?_
  exact sh_loop ha hb hn hR 2061 0 hp z0 rfl (by omega) hH (bFr.refl _ _) (fun i hi => by rw [if_neg (by omega)])
def wRem : List (Nat × Nat) := [(71, 999), (66, 5)]
theorem bIn_ne {c c1 k i : Nat} (h : ¬ c1 = c) : bIn [(c, k)] c1 i = false := by
  simp only [bIn]
  cases hb : Nat.beq c c1
  · rfl
  · exact absurd (Nat.eq_of_beq_eq_true hb).symm h
theorem bIn_h {c k : Nat} : ∀ {W : List (Nat × Nat)} {i : Nat}, (c, k) ∈ W → (k = i ∨ k = 999) → bIn W c i = true
  | p :: r, i, h, hk => by
    unfold bIn
    cases hb : Nat.beq p.1 c
    · dsimp only
      rcases List.mem_cons.mp h with z | z
      · rw [← z] at hb
        rw [Nat.beq_refl] at hb
        cases hb
      · exact bIn_h z hk
    · dsimp only
      cases hb2 : Nat.beq p.2 i
      · dsimp only
        cases hb3 : Nat.beq p.2 999
        · dsimp only
          rcases List.mem_cons.mp h with z | z
          · rw [← z] at hb2 hb3
            rcases hk with u | u
            · subst u; rw [Nat.beq_refl] at hb2; cases hb2
            · subst u; rw [Nat.beq_refl] at hb3; cases hb3
          · exact bIn_h z hk
        · rfl
      · rfl
/-- what is written in one place, is written among many -/
theorem bFr_in {c k : Nat} {W : List (Nat × Nat)} {hp hp1 : amH} (h : bFr [(c, k)] hp hp1) (hW : (c, k) ∈ W) : bFr W hp hp1 := bFr_up h (fun c1 i hi => by
  obtain ⟨p, g1, g2, g3⟩ := bIn_mem hi
  have : p = (c, k) := by simpa using g1
  subst this
  dsimp only at g2 g3
  subst g2
  exact bIn_h hW g3)
theorem bFr_sub {W W1 : List (Nat × Nat)} {hp hp1 : amH} (h : bFr W hp hp1) (hW : ∀ p ∈ W, p ∈ W1) : bFr W1 hp hp1 := bFr_up h (fun c1 i hi => by
  obtain ⟨p, g1, g2, g3⟩ := bIn_mem hi
  subst g2
  exact bIn_h (hW p g1) g3)
