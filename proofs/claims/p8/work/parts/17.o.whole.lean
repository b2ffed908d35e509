/-! ===== ways by hand: whole systems ===== -/
theorem u213 : bUp 0 am_m213.1 = true := by decide +kernel
theorem k_lstG {d : Nat} {hp : amH} {R : xQ} (hH : bHk 84 bTT hp) (hP : P0 hp) (hR : ∀ (hp1 : amH) (m : Nat), bHk 84 bTT hp1 → P0 hp1 → bFr bLT hp hp1 → Lst hp1 m → (∃ L, gL (rN hp 67) 225 L ∧ L.length = 3 * m) → R (.inl none) hp1) : xK (d + 1) 211 [.ref 66] hp R := by
  refine xin (M := am_m211) rfl rfl rfl ?_
  refine xald 1 ⟨u211, _, rfl⟩ rfl rfl ?_
  refine xcst 2 (0) ⟨u211, _, rfl⟩ rfl (by decide) (fun z1 h1 => ?_)
  refine xputI 5 hH ⟨u211, _, rfl⟩ rfl rfl ⟨rfl, rfl⟩ (by omega) (by omega) (fun hp2 hH2 U2 => ?_)
  refine xcst 6 (0) ⟨u211, _, rfl⟩ rfl (by decide) (fun z5 h5 => ?_)
  refine xist 7 ⟨u211, _, rfl⟩ rfl rfl ?_
  refine xpad 2 ?_
  refine lj_out hP.1 (fun hp1 m k1 k2 k3 => hR hp1 m k1 (P0_fr hp hp1 (fun c k hc => k2 c k (LT_Pr hc)) hP) k2 (LJ_Lst k2 k3) k3.2.1) 15 0 0 _ _ _ hp2 hH2 (rU_fr U2 (by decide)) ⟨by rw [U2.1, h1]; rfl, ⟨[], gL_nil _ _, rfl⟩, fun k hk => by omega, fun k l _ hl => by omega, fun x y z _ _ _ _ g => by omega⟩ (by omega) (by omega)
theorem k_tmG {d : Nat} {hp : amH} {R : xQ} (hH : bHk 84 bTT hp) (hP : P0 hp) (hR : ∀ (z : Int32) (hp1 : amH) (m : Nat), bHk 84 bTT hp1 → P0 hp1 → bFr bLT hp hp1 → z.toInt = (m : Int) → m ≤ 35 → (∃ L, gL (rN hp 67) 225 L ∧ L.length = 3 * m) → R (.inl (some (.int z))) hp1) : xK (d + 2) 213 [.ref 66] hp R := by
  refine xin (M := am_m213) rfl rfl rfl ?_
  refine xald 1 ⟨u213, _, rfl⟩ rfl rfl ?_
  refine xcall 4 [.ref 66] [] hH ⟨u213, _, rfl⟩ rfl rfl rfl rfl rfl (k_lstG hH hP (fun hp1 m hH1 hP1 F1 hL1 hG1 => ⟨_, rfl, ?_⟩))
  have e1 : rN hp1 67 0 = rN hp 67 0 := r_fr F1 rfl
  have t1 : ∀ u v, tT hp1 u v = tT hp u v := fun u v => r_fr F1 rfl
  refine xald 5 ⟨u213, _, rfl⟩ rfl rfl ?_
  refine xgetI 8 hH1 ⟨u213, _, rfl⟩ rfl rfl (fun z5 h5 => ?_)
  exact xret ⟨u213, _, rfl⟩ rfl (hR _ hp1 m hH1 hP1 F1 (by rw [h5, hL1.1]) hL1.2.1 hG1)
theorem pm_in {p : Int} (h1 : 3 ≤ p) (h2 : p ≤ 15) : 0 ≤ p * (p - 1) ∧ p * (p - 1) ≤ 210 := by
  have : p = 3 ∨ p = 4 ∨ p = 5 ∨ p = 6 ∨ p = 7 ∨ p = 8 ∨ p = 9 ∨ p = 10 ∨ p = 11 ∨ p = 12 ∨ p = 13 ∨ p = 14 ∨ p = 15 := by omega
  rcases this with rfl | rfl | rfl | rfl | rfl | rfl | rfl | rfl | rfl | rfl | rfl | rfl | rfl <;> decide
theorem k_pairs {d : Nat} {hp : amH} {R : xQ} (hH : bHk 84 bTT hp) (hP : P0 hp) (hR : ∀ z : Int32, z.toInt = rN hp 67 0 * (rN hp 67 0 - 1) / 2 → R (.inl (some (.int z))) hp) : xK (d + 1) 214 [.ref 66] hp R := by
  refine xin (M := am_m214) rfl rfl rfl ?_
  have q1 := hP.1.1
  have q2 := hP.1.2.1
  have hpm := pm_in q1 q2
  refine xald 1 ⟨u214, _, rfl⟩ rfl rfl ?_
  refine xcall 4 [.ref 66] [] hH ⟨u214, _, rfl⟩ rfl rfl rfl rfl rfl (k_points hH (fun z1 h1 => ⟨_, rfl, ?_⟩))
  refine xald 5 ⟨u214, _, rfl⟩ rfl rfl ?_
  refine xcall 8 [.ref 66] [.int _] hH ⟨u214, _, rfl⟩ rfl rfl rfl rfl rfl (k_points hH (fun z5 h5 => ⟨_, rfl, ?_⟩))
  refine xcst 9 (1) ⟨u214, _, rfl⟩ rfl (by decide) (fun z8 h8 => ?_)
  refine xsub 10 _ ⟨u214, _, rfl⟩ rfl rfl (by omega) (by omega) (fun z9 h9 => ?_)
  refine xmul 11 (rN hp 67 0 * (rN hp 67 0 - 1)) ⟨u214, _, rfl⟩ rfl (by rw [h1, show Int32.toInt z9 = rN hp 67 0 - 1 by omega]) (by omega) (by omega) (fun z10 h10 => ?_)
  refine xcst 12 (2) ⟨u214, _, rfl⟩ rfl (by decide) (fun z11 h11 => ?_)
  refine xdiv 13 (Int32.toInt z10 / 2) ⟨u214, _, rfl⟩ rfl (by omega) (by omega) (by rw [h11]) (fun z12 h12 => ?_)
  exact xret ⟨u214, _, rfl⟩ rfl (hR _ (by rw [h12, h10]))
def Msk (p : Nat) : List Nat := (List.range 225).filter (fun s => decide (s / 15 < s % 15) && decide (s % 15 < p))
theorem Msk_len : ∀ p : Fin 16, 2 * (Msk p).length = p * (p - 1) := by decide +kernel
theorem Wh_of {hp : amH} (hV : Vf (rN hp 67)) {m : Nat} {L : List Nat} (h : gL (rN hp 67) 225 L) (hL : L.length = 3 * m) (he : rN hp 67 0 * (rN hp 67 0 - 1) / 2 = 3 * (m : Int)) : Wh hp := by
  obtain ⟨p, hp1⟩ : ∃ p : Nat, rN hp 67 0 = (p : Int) := ⟨(rN hp 67 0).toNat, by have := hV.1; omega⟩
  have hp15 := hV.2.1
  have hp3 := hV.1
  have hlen := Msk_len ⟨p, by omega⟩
  dsimp only at hlen
  have hmul : (p : Int) * ((p : Int) - 1) = ((p * (p - 1) : Nat) : Int) := by
    rw [Int.natCast_mul, Int.ofNat_sub (by omega)]
    rfl
  rw [hp1, hmul] at he
  have key : ∀ a b : Nat, a < b → (b : Int) < rN hp 67 0 → 0 ≤ tT hp a b := by
    intro a b hab hb
    rcases Int.lt_or_le (tT hp a b) 0 with z | z
    · exfalso
      have hmem : ∀ s ∈ L, s ∈ (Msk p).erase (15 * a + b) := by
        intro s hs
        obtain ⟨x, y, w, g1, g2, g3, g4, -⟩ := h.2 s hs
        have t := (Vf_at hV (by omega) g3 g4).2.1
        refine (List.mem_erase_of_ne (fun q => ?_)).mpr (List.mem_filter.mpr ⟨List.mem_range.mpr (by omega), ?_⟩)
        · have e1 : x = a := by omega
          have e2 : y = b := by omega
          subst e1
          subst e2
          have : tT hp x y = (w : Int) := g4
          omega
        · simp only [Bool.and_eq_true, decide_eq_true_eq]
          omega
      have h1 := nd_len L _ h.1 hmem
      have h2 : 15 * a + b ∈ Msk p := List.mem_filter.mpr ⟨List.mem_range.mpr (by omega), by simp only [Bool.and_eq_true, decide_eq_true_eq]; omega⟩
      rw [List.length_erase_of_mem h2] at h1
      have h3 := List.length_pos_of_mem h2
      omega
    · exact z
  intro u v huv hu hv
  rcases Nat.lt_or_ge u v with z | z
  · exact key u v z hv
  · rw [Vf_sym hV (a := v) (b := u) (by omega) (by omega)]
    exact key v u (by omega) hu
theorem Wh_W {hp hp1 : amH} (h : ∀ i, rN hp1 67 i = rN hp 67 i) (hW : Wh hp) : Wh hp1 := by
  intro u v a b c
  rw [h] at b c
  have := hW u v a b c
  unfold tT at this ⊢
  rw [h]
  exact this
theorem k_unmG {d : Nat} {hp : amH} {R : xQ} (hH : bHk 84 bTT hp) (hP : P0 hp) (hR : ∀ (z : Int32) hp1, bHk 84 bTT hp1 → P0 hp1 → bFr bLT hp hp1 → (z.toInt = 0 → Wh hp1) → R (.inl (some (.int z))) hp1) : xK (d + 3) 215 [.ref 66] hp R := by
  refine xin (M := am_m215) rfl rfl rfl ?_
  have q1 := hP.1.1
  have q2 := hP.1.2.1
  have hpm := pm_in q1 q2
  refine xald 1 ⟨u215, _, rfl⟩ rfl rfl ?_
  refine xcall 4 [.ref 66] [] hH ⟨u215, _, rfl⟩ rfl rfl rfl rfl rfl (k_pairs hH hP (fun z1 h1 => ⟨_, rfl, ?_⟩))
  refine xcst 5 (3) ⟨u215, _, rfl⟩ rfl (by decide) (fun z4 h4 => ?_)
  refine xald 6 ⟨u215, _, rfl⟩ rfl rfl ?_
  refine xcall 9 [.ref 66] [.int _, .int _] hH ⟨u215, _, rfl⟩ rfl rfl rfl rfl rfl (k_tmG hH hP (fun z6 hp6 m hH6 hP6 F6 h6 hM6 hG6 => ⟨_, rfl, ?_⟩))
  have e6 : rN hp6 67 0 = rN hp 67 0 := r_fr F6 rfl
  have t6 : ∀ u v, tT hp6 u v = tT hp u v := fun u v => r_fr F6 rfl
  refine xmul 10 (3 * Int32.toInt z6) ⟨u215, _, rfl⟩ rfl (by rw [h4]) (by omega) (by omega) (fun z9 h9 => ?_)
  refine xsub 11 _ ⟨u215, _, rfl⟩ rfl rfl (by omega) (by omega) (fun z10 h10 => ?_)
  exact xret ⟨u215, _, rfl⟩ rfl (hR _ hp6 hH6 hP6 F6 (fun z => by
    obtain ⟨L, g1, g2⟩ := hG6
    refine Wh_W (hp := hp) (fun i => r_fr F6 rfl) (Wh_of hP.1 g1 g2 ?_)
    omega))
theorem k_whole {d : Nat} {hp : amH} {R : xQ} (hH : bHk 84 bTT hp) (hP : P0 hp) (hR : ∀ (z : Int32) hp1, bHk 84 bTT hp1 → P0 hp1 → bFr bLT hp hp1 → (z.toInt = 0 ∨ (z.toInt = 1 ∧ Wh hp1)) → R (.inl (some (.int z))) hp1) : xK (d + 4) 262 [.ref 66] hp R := by
  refine xin (M := am_m262) rfl rfl rfl ?_
  refine xald 1 ⟨u262, _, rfl⟩ rfl rfl ?_
  refine xcall 4 [.ref 66] [] hH ⟨u262, _, rfl⟩ rfl rfl rfl rfl rfl (k_unmG hH hP (fun z1 hp1 hH1 hP1 F1 h1 => ⟨_, rfl, ?_⟩))
  have e1 : rN hp1 67 0 = rN hp 67 0 := r_fr F1 rfl
  have t1 : ∀ u v, tT hp1 u v = tT hp u v := fun u v => r_fr F1 rfl
  refine xif_ne 7 ⟨u262, _, rfl⟩ rfl (fun c4 => ?_) (fun c4 => ?_)
  · refine xcst 12 (0) ⟨u262, _, rfl⟩ rfl (by decide) (fun z11 h11 => ?_)
    exact xretB ⟨u262, _, rfl⟩ rfl (by omega) (hR _ hp1 hH1 hP1 F1 (Or.inl (by assumption)))
  · refine xcst 8 (1) ⟨u262, _, rfl⟩ rfl (by decide) (fun z7 h7 => ?_)
    refine xgoto ⟨u262, _, rfl⟩ ?_
    exact xretB ⟨u262, _, rfl⟩ rfl (by omega) (hR _ hp1 hH1 hP1 F1 (Or.inr ⟨by assumption, h1 c4⟩))
theorem k_notrain {d : Nat} {hp : amH} {R : xQ} {a b c : Int32} (hH : bHk 84 bTT hp) (hP : P0 hp) (hR : ∀ (z : Int32) hp1, bHk 84 bTT hp1 → P0 hp1 → bFr wNT hp hp1 → (z.toInt = 1 ∨ (z.toInt = 0 ∧ Wh hp1 ∧ 0 ≤ a.toInt ∧ a.toInt < rN hp 67 0 ∧ 0 ≤ b.toInt ∧ b.toInt < rN hp 67 0 ∧ 0 ≤ c.toInt ∧ c.toInt < rN hp 67 0 ∧ ¬ a.toInt = b.toInt ∧ ¬ b.toInt = c.toInt ∧ ¬ a.toInt = c.toInt)) → R (.inl (some (.int z))) hp1) : xK (d + 5) 309 [.ref 66, .int a, .int b, .int c] hp R := by
  refine xin (M := am_m309) rfl rfl rfl ?_
  have G : bFr wNT hp hp := bFr.refl _ _
  have j30 : ∀ hp1, bHk 84 bTT hp1 → P0 hp1 → bFr wNT hp hp1 → xV (d + 5) am_m309 30 [some (.ref 66), some (.int a), some (.int b), some (.int c)] [] hp1 R := by
    intro hp1 hH1 hP1 G1
    refine xcst 31 (1) ⟨u309, _, rfl⟩ rfl (by decide) (fun z34 h34 => ?_)
    refine xgoto ⟨u309, _, rfl⟩ ?_
    exact xretB ⟨u309, _, rfl⟩ rfl (by omega) (hR _ _ hH1 hP1 G1 (Or.inl h34))
  refine xald 1 ⟨u309, _, rfl⟩ rfl rfl ?_
  refine xild 2 ⟨u309, _, rfl⟩ rfl rfl ?_
  refine xild 3 ⟨u309, _, rfl⟩ rfl rfl ?_
  refine xild 4 ⟨u309, _, rfl⟩ rfl rfl ?_
  refine xcall 7 [.ref 66, .int _, .int _, .int _] [] hH ⟨u309, _, rfl⟩ rfl rfl rfl rfl rfl (k_noset hH hP (fun z4 hp4 hH4 hP4 F4 h4 => ⟨_, rfl, ?_⟩))
  have G4 := G.trans (bFr_sub (W1 := wNT) F4 (by decide))
  have e4 : rN hp4 67 0 = rN hp 67 0 := r_fr F4 rfl
  have t4 : ∀ u v, tT hp4 u v = tT hp u v := fun u v => r_fr F4 rfl
  refine xif_ne 10 ⟨u309, _, rfl⟩ rfl (fun c7 => ?_) (fun c7 => ?_)
  · exact j30 _ hH4 hP4 G4
  · refine xald 11 ⟨u309, _, rfl⟩ rfl rfl ?_
    refine xald 12 ⟨u309, _, rfl⟩ rfl rfl ?_
    refine xcall 15 [.ref 66] [.ref 66] hH4 ⟨u309, _, rfl⟩ rfl rfl rfl rfl rfl (k_whole hH4 hP4 (fun z12 hp12 hH12 hP12 F12 h12 => ⟨_, rfl, ?_⟩))
    have G12 := G4.trans (bFr_sub (W1 := wNT) F12 (by decide))
    have e12 : rN hp12 67 0 = rN hp4 67 0 := r_fr F12 rfl
    have t12 : ∀ u v, tT hp12 u v = tT hp4 u v := fun u v => r_fr F12 rfl
    refine xif_ne 18 ⟨u309, _, rfl⟩ rfl (fun c15 => ?_) (fun c15 => ?_)
    · refine xcst 23 (0) ⟨u309, _, rfl⟩ rfl (by decide) (fun z22 h22 => ?_)
      refine xcst 24 (3) ⟨u309, _, rfl⟩ rfl (by decide) (fun z23 h23 => ?_)
      refine xcall 27 [.ref 66, .int _, .int _] [] hH12 ⟨u309, _, rfl⟩ rfl rfl rfl rfl rfl (k_fails2 hH12 hP12 (by omega) (fun hp24 hH24 hP24 F24 => ⟨_, rfl, ?_⟩))
      have G24 := G12.trans (bFr_sub (W1 := wNT) F24 (by decide))
      have e24 : rN hp24 67 0 = rN hp12 67 0 := r_fr F24 rfl
      have t24 : ∀ u v, tT hp24 u v = tT hp12 u v := fun u v => r_fr F24 rfl
      refine xif_eq 30 ⟨u309, _, rfl⟩ rfl (fun c27 => ?_) (fun c27 => ?_)
      · refine xcst 35 (0) ⟨u309, _, rfl⟩ rfl (by decide) (fun z34 h34 => ?_)
        exact xretB ⟨u309, _, rfl⟩ rfl (by omega) (hR _ _ hH24 hP24 G24 (Or.inr ⟨by assumption, Wh_W (fun i => r_fr F24 rfl) (by
        rcases h12 with g | g
        · omega
        · exact g.2), by omega⟩))
      · exact j30 _ hH24 hP24 G24
    · refine xcst 19 (1) ⟨u309, _, rfl⟩ rfl (by decide) (fun z18 h18 => ?_)
      refine xgoto ⟨u309, _, rfl⟩ ?_
      refine xcst 24 (3) ⟨u309, _, rfl⟩ rfl (by decide) (fun z23 h23 => ?_)
      refine xcall 27 [.ref 66, .int _, .int _] [] hH12 ⟨u309, _, rfl⟩ rfl rfl rfl rfl rfl (k_fails2 hH12 hP12 (by omega) (fun hp24 hH24 hP24 F24 => ⟨_, rfl, ?_⟩))
      have G24 := G12.trans (bFr_sub (W1 := wNT) F24 (by decide))
      have e24 : rN hp24 67 0 = rN hp12 67 0 := r_fr F24 rfl
      have t24 : ∀ u v, tT hp24 u v = tT hp12 u v := fun u v => r_fr F24 rfl
      refine xif_eq 30 ⟨u309, _, rfl⟩ rfl (fun c27 => ?_) (fun c27 => ?_)
      · refine xcst 35 (0) ⟨u309, _, rfl⟩ rfl (by decide) (fun z34 h34 => ?_)
        exact xretB ⟨u309, _, rfl⟩ rfl (by omega) (hR _ _ hH24 hP24 G24 (Or.inr ⟨by assumption, Wh_W (fun i => r_fr F24 rfl) (by
        rcases h12 with g | g
        · omega
        · exact g.2), by omega⟩))
      · exact j30 _ hH24 hP24 G24
