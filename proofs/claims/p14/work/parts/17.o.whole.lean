/-! ##### 17.o.whole ##### -/
section
/-! ===== ways by hand: whole systems ===== -/
theorem u213 : bUp 0 am_m213.1 = true := by decide +kernel
theorem k_lstG {d : Nat} {hp : amH} {R : xQ} (hH : bHk 84 bTT hp) (hP : P0 hp) (hR : ∀ (hp1 : amH) (m : Nat), bHk 84 bTT hp1 → P0 hp1 → bFr bLT hp hp1 → Lst hp1 m → (∃ L, gL (rN hp 67) 225 L ∧ L.length = 3 * m) → R (.inl none) hp1) : xK (d + 1) 211 [.ref 66] hp R := by
  refine xin (M := am_m211) rfl rfl rfl ?_
  refine xald 1 ⟨u211, _, rfl⟩ rfl rfl ?_
  refine xcst 2 (0) ⟨u211, _, rfl⟩ rfl (by decide) (fun z1 h1 => ?_)
  refine xputI 5 hH ⟨u211, _, rfl⟩ rfl rfl ⟨rfl, rfl⟩ (by omega) (by omega) (fun hp2 hH2 U2 => ?_)
  refine xcst 6 (0) ⟨u211, _, rfl⟩ rfl (by decide) (fun z5 h5 => ?_)
  refine xist 7 ⟨u211, _, rfl⟩ rfl rfl ?_
  refine xpad 2 ?_
  refine lj_out hP.1 (fun hp1 m k1 k2 k3 => hR hp1 m k1 (P0_fr hp hp1 (fun c k hc => k2 c k (LT_Pr hc)) hP) k2 (LJ_Lst k2 k3) k3.2.1) 15 0 0 _ _ _ hp2 hH2 (rU_fr U2 (by decide)) ⟨by rw [U2.1, h1]; rfl, ⟨[], gL_nil _ _, rfl⟩, fun k hk => by omega, fun k l _ hl => by omega, fun x y z _ _ _ _ g => by omega⟩ (by omega) (by omega)
theorem k_tmG {d : Nat} {hp : amH} {R : xQ} (hH : bHk 84 bTT hp) (hP : P0 hp) (hR : ∀ (z : Int32) (hp1 : amH) (m : Nat), bHk 84 bTT hp1 → P0 hp1 → bFr bLT hp hp1 → z.toInt = (m : Int) → m ≤ 35 → (∃ L, gL (rN hp 67) 225 L ∧ L.length = 3 * m) → R (.inl (some (.int z))) hp1) : xK (d + 2) 213 [.ref 66] hp R := by
  refine xin (M := am_m213) rfl rfl rfl ?_
  refine xald 1 ⟨u213, _, rfl⟩ rfl rfl ?_
  refine xcall 4 [.ref 66] [] hH ⟨u213, _, rfl⟩ rfl rfl rfl rfl rfl (k_lstG hH hP (fun hp1 m hH1 hP1 F1 hL1 hG1 => ⟨_, rfl, ?_⟩))
  have e1 : rN hp1 67 0 = rN hp 67 0 := r_fr F1 rfl
  have t1 : ∀ u v, tT hp1 u v = tT hp u v := fun u v => r_fr F1 rfl
  refine xald 5 ⟨u213, _, rfl⟩ rfl rfl ?_
  refine xgetI 8 hH1 ⟨u213, _, rfl⟩ rfl rfl (fun z5 h5 => ?_)
  exact xret ⟨u213, _, rfl⟩ rfl (hR _ hp1 m hH1 hP1 F1 (by rw [h5, hL1.1]) hL1.2.1 hG1)
theorem pm_in {p : Int} (h1 : 3 ≤ p) (h2 : p ≤ 15) : 0 ≤ p * (p - 1) ∧ p * (p - 1) ≤ 210 := by
  have : p = 3 ∨ p = 4 ∨ p = 5 ∨ p = 6 ∨ p = 7 ∨ p = 8 ∨ p = 9 ∨ p = 10 ∨ p = 11 ∨ p = 12 ∨ p = 13 ∨ p = 14 ∨ p = 15 := by omega
  rcases this with rfl | rfl | rfl | rfl | rfl | rfl | rfl | rfl | rfl | rfl | rfl | rfl | rfl <;> decide
theorem k_pairs {d : Nat} {hp : amH} {R : xQ} (hH : bHk 84 bTT hp) (hP : P0 hp) (hR : ∀ z : Int32, z.toInt = rN hp 67 0 * (rN hp 67 0 - 1) / 2 → R (.inl (some (.int z))) hp) : xK (d + 1) 214 [.ref 66] hp R := by
  refine xin (M := am_m214) rfl rfl rfl ?_
  have q1 := hP.1.1
  have q2 := hP.1.2.1
  have hpm := pm_in q1 q2
  refine xald 1 ⟨u214, _, rfl⟩ rfl rfl ?_
  refine xcall 4 [.ref 66] [] hH ⟨u214, _, rfl⟩ rfl rfl rfl rfl rfl (k_points hH (fun z1 h1 => ⟨_, rfl, ?_⟩))
  refine xald 5 ⟨u214, _, rfl⟩ rfl rfl ?_
  refine xcall 8 [.ref 66] [.int _] hH ⟨u214, _, rfl⟩ rfl rfl rfl rfl rfl (k_points hH (fun z5 h5 => ⟨_, rfl, ?_⟩))
  refine xcst 9 (1) ⟨u214, _, rfl⟩ rfl (by decide) (fun z8 h8 => ?_)
  refine xsub 10 _ ⟨u214, _, rfl⟩ rfl rfl (by omega) (by omega) (fun z9 h9 => ?_)
  refine xmul 11 (rN hp 67 0 * (rN hp 67 0 - 1)) ⟨u214, _, rfl⟩ rfl (by rw [h1, show Int32.toInt z9 = rN hp 67 0 - 1 by omega]) (by omega) (by omega) (fun z10 h10 => ?_)
  refine xcst 12 (2) ⟨u214, _, rfl⟩ rfl (by decide) (fun z11 h11 => ?_)
  refine xdiv 13 (Int32.toInt z10 / 2) ⟨u214, _, rfl⟩ rfl (by omega) (by omega) (by rw [h11]) (fun z12 h12 => ?_)
  exact xret ⟨u214, _, rfl⟩ rfl (hR _ (by rw [h12, h10]))
noncomputable def Msk (p : Nat) : List Nat := (List.range 225).filter (fun s => decide (s / 15 < s % 15) && decide (s % 15 < p))
theorem Msk_len : ∀ p : Fin 16, 2 * (Msk p).length = p * (p - 1) := by decide +kernel
theorem Wh_of {hp : amH} (hV : Vf (rN hp 67)) {m : Nat} {L : List Nat} (h : gL (rN hp 67) 225 L) (hL : L.length = 3 * m) (he : rN hp 67 0 * (rN hp 67 0 - 1) / 2 = 3 * (m : Int)) : Wh hp := by
  obtain ⟨p, hp1⟩ : ∃ p : Nat, rN hp 67 0 = (p : Int) := ⟨(rN hp 67 0).toNat, by have := hV.1; omega⟩
  have hp15 := hV.2.1
  have hp3 := hV.1
  have hlen := Msk_len ⟨p, by omega⟩
  dsimp only at hlen
  have hmul : (p : Int) * ((p : Int) - 1) = ((p * (p - 1) : Nat) : Int) := by
    rw [Int.natCast_mul, Int.ofNat_sub (by omega)]
    rfl
  rw [hp1, hmul] at he
  have key : ∀ a b : Nat, a < b → (b : Int) < rN hp 67 0 → 0 ≤ tT hp a b := by
    intro a b hab hb
    rcases Int.lt_or_le (tT hp a b) 0 with z | z
    · exfalso
      have hmem : ∀ s ∈ L, s ∈ (Msk p).erase (15 * a + b) := by
        intro s hs
        obtain ⟨x, y, w, g1, g2, g3, g4, -⟩ := h.2 s hs
        have t := (Vf_at hV (by omega) g3 g4).2.1
        refine (List.mem_erase_of_ne (fun q => ?_)).mpr (List.mem_filter.mpr ⟨List.mem_range.mpr (by omega), ?_⟩)
        · have e1 : x = a := by omega
          have e2 : y = b := by omega
          subst e1
          subst e2
          have : tT hp x y = (w : Int) := g4
          omega
        · simp only [Bool.and_eq_true, decide_eq_true_eq]
          omega
      have h1 := nd_len L _ h.1 hmem
      have h2 : 15 * a + b ∈ Msk p := List.mem_filter.mpr ⟨List.mem_range.mpr (by omega), by simp only [Bool.and_eq_true, decide_eq_true_eq]; omega⟩
      rw [List.length_erase_of_mem h2] at h1
      have h3 := List.length_pos_of_mem h2
      omega
    · exact z
  intro u v huv hu hv
  rcases Nat.lt_or_ge u v with z | z
  · exact key u v z hv
  · rw [Vf_sym hV (a := v) (b := u) (by omega) (by omega)]
    exact key v u (by omega) hu
theorem Wh_W {hp hp1 : amH} (h : ∀ i, rN hp1 67 i = rN hp 67 i) (hW : Wh hp) : Wh hp1 := by
  intro u v a b c
  rw [h] at b c
  have := hW u v a b c
  unfold tT at this ⊢
  rw [h]
  exact this
theorem k_unmG {d : Nat} {hp : amH} {R : xQ} (hH : bHk 84 bTT hp) (hP : P0 hp) (hR : ∀ (z : Int32) hp1, bHk 84 bTT hp1 → P0 hp1 → bFr bLT hp hp1 → (z.toInt = 0 → Wh hp1) → R (.inl (some (.int z))) hp1) : xK (d + 3) 215 [.ref 66] hp R := by
  refine xin (M := am_m215) rfl rfl rfl ?_
  have q1 := hP.1.1
  have q2 := hP.1.2.1
  have hpm := pm_in q1 q2
  refine xald 1 ⟨u215, _, rfl⟩ rfl rfl ?_
  refine xcall 4 [.ref 66] [] hH ⟨u215, _, rfl⟩ rfl rfl rfl rfl rfl (k_pairs hH hP (fun z1 h1 => ⟨_, rfl, ?_⟩))
  refine xcst 5 (3) ⟨u215, _, rfl⟩ rfl (by decide) (fun z4 h4 => ?_)
  refine xald 6 ⟨u215, _, rfl⟩ rfl rfl ?_
  refine xcall 9 [.ref 66] [.int _, .int _] hH ⟨u215, _, rfl⟩ rfl rfl rfl rfl rfl (k_tmG hH hP (fun z6 hp6 m hH6 hP6 F6 h6 hM6 hG6 => ⟨_, rfl, ?_⟩))
  have e6 : rN hp6 67 0 = rN hp 67 0 := r_fr F6 rfl
  have t6 : ∀ u v, tT hp6 u v = tT hp u v := fun u v => r_fr F6 rfl
  refine xmul 10 (3 * Int32.toInt z6) ⟨u215, _, rfl⟩ rfl (by rw [h4]) (by omega) (by omega) (fun z9 h9 => ?_)
  refine xsub 11 _ ⟨u215, _, rfl⟩ rfl rfl (by omega) (by omega) (fun z10 h10 => ?_)
  exact xret ⟨u215, _, rfl⟩ rfl (hR _ hp6 hH6 hP6 F6 (fun z => by
    obtain ⟨L, g1, g2⟩ := hG6
    refine Wh_W (hp := hp) (fun i => r_fr F6 rfl) (Wh_of hP.1 g1 g2 ?_)
    omega))
theorem k_whole {d : Nat} {hp : amH} {R : xQ} (hH : bHk 84 bTT hp) (hP : P0 hp) (hR : ∀ (z : Int32) hp1, bHk 84 bTT hp1 → P0 hp1 → bFr bLT hp hp1 → (z.toInt = 0 ∨ (z.toInt = 1 ∧ Wh hp1)) → R (.inl (some (.int z))) hp1) : xK (d + 4) 262 [.ref 66] hp R := by
  refine xin (M := am_m262) rfl rfl rfl ?_
  refine xald 1 ⟨u262, _, rfl⟩ rfl rfl ?_
  refine xcall 4 [.ref 66] [] hH ⟨u262, _, rfl⟩ rfl rfl rfl rfl rfl (k_unmG hH hP (fun z1 hp1 hH1 hP1 F1 h1 => ⟨_, rfl, ?_⟩))
  have e1 : rN hp1 67 0 = rN hp 67 0 := r_fr F1 rfl
  have t1 : ∀ u v, tT hp1 u v = tT hp u v := fun u v => r_fr F1 rfl
  refine xif_ne 7 ⟨u262, _, rfl⟩ rfl (fun c4 => ?_) (fun c4 => ?_)
  · refine xcst 12 (0) ⟨u262, _, rfl⟩ rfl (by decide) (fun z11 h11 => ?_)
    exact xretB ⟨u262, _, rfl⟩ rfl (by omega) (hR _ hp1 hH1 hP1 F1 (Or.inl (by assumption)))
  · refine xcst 8 (1) ⟨u262, _, rfl⟩ rfl (by decide) (fun z7 h7 => ?_)
    refine xgoto ⟨u262, _, rfl⟩ ?_
    exact xretB ⟨u262, _, rfl⟩ rfl (by omega) (hR _ hp1 hH1 hP1 F1 (Or.inr ⟨by assumption, h1 c4⟩))
theorem k_notrain {d : Nat} {hp : amH} {R : xQ} {a b c : Int32} (hH : bHk 84 bTT hp) (hP : P0 hp) (hR : ∀ (z : Int32) hp1, bHk 84 bTT hp1 → P0 hp1 → bFr wNT hp hp1 → (z.toInt = 1 ∨ (z.toInt = 0 ∧ Wh hp1 ∧ 0 ≤ a.toInt ∧ a.toInt < rN hp 67 0 ∧ 0 ≤ b.toInt ∧ b.toInt < rN hp 67 0 ∧ 0 ≤ c.toInt ∧ c.toInt < rN hp 67 0 ∧ ¬ a.toInt = b.toInt ∧ ¬ b.toInt = c.toInt ∧ ¬ a.toInt = c.toInt)) → R (.inl (some (.int z))) hp1) : xK (d + 5) 309 [.ref 66, .int a, .int b, .int c] hp R := by
  refine xin (M := am_m309) rfl rfl rfl ?_
  have G : bFr wNT hp hp := bFr.refl _ _
  have j30 : ∀ hp1, bHk 84 bTT hp1 → P0 hp1 → bFr wNT hp hp1 → xV (d + 5) am_m309 30 [some (.ref 66), some (.int a), some (.int b), some (.int c)] [] hp1 R := by
    intro hp1 hH1 hP1 G1
    refine xcst 31 (1) ⟨u309, _, rfl⟩ rfl (by decide) (fun z34 h34 => ?_)
    refine xgoto ⟨u309, _, rfl⟩ ?_
    exact xretB ⟨u309, _, rfl⟩ rfl (by omega) (hR _ _ hH1 hP1 G1 (Or.inl h34))
  refine xald 1 ⟨u309, _, rfl⟩ rfl rfl ?_
  refine xild 2 ⟨u309, _, rfl⟩ rfl rfl ?_
  refine xild 3 ⟨u309, _, rfl⟩ rfl rfl ?_
  refine xild 4 ⟨u309, _, rfl⟩ rfl rfl ?_
  refine xcall 7 [.ref 66, .int _, .int _, .int _] [] hH ⟨u309, _, rfl⟩ rfl rfl rfl rfl rfl (k_noset hH hP (fun z4 hp4 hH4 hP4 F4 h4 => ⟨_, rfl, ?_⟩))
  have G4 := G.trans (bFr_sub (W1 := wNT) F4 (by decide))
  have e4 : rN hp4 67 0 = rN hp 67 0 := r_fr F4 rfl
  have t4 : ∀ u v, tT hp4 u v = tT hp u v := fun u v => r_fr F4 rfl
  refine xif_ne 10 ⟨u309, _, rfl⟩ rfl (fun c7 => ?_) (fun c7 => ?_)
  · exact j30 _ hH4 hP4 G4
  · refine xald 11 ⟨u309, _, rfl⟩ rfl rfl ?_
    refine xald 12 ⟨u309, _, rfl⟩ rfl rfl ?_
    refine xcall 15 [.ref 66] [.ref 66] hH4 ⟨u309, _, rfl⟩ rfl rfl rfl rfl rfl (k_whole hH4 hP4 (fun z12 hp12 hH12 hP12 F12 h12 => ⟨_, rfl, ?_⟩))
    have G12 := G4.trans (bFr_sub (W1 := wNT) F12 (by decide))
    have e12 : rN hp12 67 0 = rN hp4 67 0 := r_fr F12 rfl
    have t12 : ∀ u v, tT hp12 u v = tT hp4 u v := fun u v => r_fr F12 rfl
    refine xif_ne 18 ⟨u309, _, rfl⟩ rfl (fun c15 => ?_) (fun c15 => ?_)
    · refine xcst 23 (0) ⟨u309, _, rfl⟩ rfl (by decide) (fun z22 h22 => ?_)
      refine xcst 24 (3) ⟨u309, _, rfl⟩ rfl (by decide) (fun z23 h23 => ?_)
      refine xcall 27 [.ref 66, .int _, .int _] [] hH12 ⟨u309, _, rfl⟩ rfl rfl rfl rfl rfl (k_fails2 hH12 hP12 (by omega) (fun hp24 hH24 hP24 F24 => ⟨_, rfl, ?_⟩))
      have G24 := G12.trans (bFr_sub (W1 := wNT) F24 (by decide))
      have e24 : rN hp24 67 0 = rN hp12 67 0 := r_fr F24 rfl
      have t24 : ∀ u v, tT hp24 u v = tT hp12 u v := fun u v => r_fr F24 rfl
      refine xif_eq 30 ⟨u309, _, rfl⟩ rfl (fun c27 => ?_) (fun c27 => ?_)
      · refine xcst 35 (0) ⟨u309, _, rfl⟩ rfl (by decide) (fun z34 h34 => ?_)
        exact xretB ⟨u309, _, rfl⟩ rfl (by omega) (hR _ _ hH24 hP24 G24 (Or.inr ⟨by assumption, Wh_W (fun i => r_fr F24 rfl) (by
        rcases h12 with g | g
        · omega
        · exact g.2), by omega⟩))
      · exact j30 _ hH24 hP24 G24
    · refine xcst 19 (1) ⟨u309, _, rfl⟩ rfl (by decide) (fun z18 h18 => ?_)
      refine xgoto ⟨u309, _, rfl⟩ ?_
      refine xcst 24 (3) ⟨u309, _, rfl⟩ rfl (by decide) (fun z23 h23 => ?_)
      refine xcall 27 [.ref 66, .int _, .int _] [] hH12 ⟨u309, _, rfl⟩ rfl rfl rfl rfl rfl (k_fails2 hH12 hP12 (by omega) (fun hp24 hH24 hP24 F24 => ⟨_, rfl, ?_⟩))
      have G24 := G12.trans (bFr_sub (W1 := wNT) F24 (by decide))
      have e24 : rN hp24 67 0 = rN hp12 67 0 := r_fr F24 rfl
      have t24 : ∀ u v, tT hp24 u v = tT hp12 u v := fun u v => r_fr F24 rfl
      refine xif_eq 30 ⟨u309, _, rfl⟩ rfl (fun c27 => ?_) (fun c27 => ?_)
      · refine xcst 35 (0) ⟨u309, _, rfl⟩ rfl (by decide) (fun z34 h34 => ?_)
        exact xretB ⟨u309, _, rfl⟩ rfl (by omega) (hR _ _ hH24 hP24 G24 (Or.inr ⟨by assumption, Wh_W (fun i => r_fr F24 rfl) (by
        rcases h12 with g | g
        · omega
        · exact g.2), by omega⟩))
      · exact j30 _ hH24 hP24 G24
end
/-! ##### 17.p.round ##### -/
section
/-! ===== ways by hand: trains, rounds ===== -/
noncomputable def itN (hp : amH) : Nat → Int → Int
  | 0, c => c
  | n + 1, c => nx hp (itN hp n c)
theorem itN_add (hp : amH) : ∀ (n m : Nat) (c : Int), itN hp (n + m) c = itN hp n (itN hp m c)
  | 0, m, c => by rw [Nat.zero_add]; rfl
  | n + 1, m, c => by
    rw [show n + 1 + m = (n + m) + 1 by omega]
    show nx hp (itN hp (n + m) c) = nx hp (itN hp n (itN hp m c))
    rw [itN_add hp n m c]
theorem itN_Cd {hp : amH} (hV : Vf (rN hp 67)) (hW : Wh hp) {c : Int} (hc : Cd (rN hp 67 0) c) : ∀ n, Cd (rN hp 67 0) (itN hp n c)
  | 0 => hc
  | n + 1 => nx_Cd hV hW (itN_Cd hV hW hc n)
noncomputable def per (hp : amH) (c : Int) : Prop := ∃ n : Nat, 1 ≤ n ∧ n ≤ 456 ∧ itN hp n c = c
noncomputable def Cds : List Nat := (List.range 4096).filter (fun s => decide (s % 16 < s / 16 % 16) && (decide (s / 16 % 16 < s / 256) && decide (s / 256 < 15)))
theorem Cds_len : Cds.length = 455 := by decide +kernel
theorem Cd_m {p c : Int} (hp : p ≤ 15) (h : Cd p c) : c.toNat ∈ Cds ∧ 0 ≤ c := by
  obtain ⟨x, y, z, h1, h2, h3, rfl⟩ := h
  have e : (256 * (x : Int) + 16 * y + z).toNat = 256 * x + 16 * y + z := by omega
  rw [e]
  have e1 : (256 * x + 16 * y + z) / 256 = x := by omega
  have e2 : (256 * x + 16 * y + z) / 16 % 16 = y := by omega
  have e3 : (256 * x + 16 * y + z) % 16 = z := by omega
  refine ⟨List.mem_filter.mpr ⟨List.mem_range.mpr (by omega), ?_⟩, by omega⟩
  rw [e1, e2, e3]
  simp only [Bool.and_eq_true, decide_eq_true_eq]
  exact ⟨h1, h2, by omega⟩
theorem nd_rng (f : Nat → Nat) : ∀ n : Nat, (∀ i j, i < j → j < n → ¬ f i = f j) → ((List.range n).map f).Nodup := by
  intro n
  induction n with
  | zero => intro _; exact List.nodup_nil
  | succ n ih =>
    intro h
    rw [List.range_succ, List.map_append]
    refine List.nodup_append.mpr ⟨ih (fun i j a b => h i j a (by omega)), by simp, fun a ha b hb => ?_⟩
    obtain ⟨i, hi, rfl⟩ := List.mem_map.mp ha
    have hb : b = f n := by simpa using hb
    subst hb
    exact h i n (List.mem_range.mp hi) (by omega)
/-- among 456 steps one is on a round -/
theorem per_ex {hp : amH} (hV : Vf (rN hp 67)) (hW : Wh hp) {c : Int} (hc : Cd (rN hp 67 0) c) (h : ∀ k, k < 456 → ¬ per hp (itN hp k c)) : False := by
  have hp15 := hV.2.1
  have g := nd_len ((List.range 456).map (fun k => (itN hp k c).toNat)) Cds (nd_rng _ 456 (fun i j hij hj e => ?_)) (fun s hs => ?_)
  · rw [List.length_map, List.length_range, Cds_len] at g
    omega
  · have e1 := (Cd_m hp15 (itN_Cd hV hW hc i)).2
    have e2 := (Cd_m hp15 (itN_Cd hV hW hc j)).2
    refine h i (by omega) ⟨j - i, by omega, by omega, ?_⟩
    rw [← itN_add, show j - i + i = j by omega]
    omega
  · obtain ⟨k, -, rfl⟩ := List.mem_map.mp hs
    exact (Cd_m hp15 (itN_Cd hV hW hc k)).1
theorem l313 {d : Nat} {hp : amH} {R : xQ} {c : Int32} (hH : bHk 84 bTT hp) (hP : P0 hp) (hW : Wh hp) (hc : Cd (rN hp 67 0) c.toInt) (hR : ∀ z : Int32, ((z.toInt = 0 ∧ ¬ per hp c.toInt) ∨ (¬ z.toInt = 0 ∧ per hp c.toInt)) → R (.inl (some (.int z))) hp) :
    ∀ (j n : Nat) (at1 k : Int32), n + j = 456 → 1 ≤ n → k.toInt = (n : Int) → at1.toInt = itN hp n c.toInt → (∀ i, 1 ≤ i → i < n → ¬ itN hp i c.toInt = c.toInt) → xV (d + 3) am_m313 8 [some (.ref 66), some (.int c), some (.int at1), some (.int k)] [] hp R := by
  intro j
  induction j using Nat.strongRecOn with
  | ind j ih =>
    intro n at1 k hj n1 hk ha hn
    have j32 : n ≤ 456 → (at1.toInt = c.toInt ∨ n = 456) → xV (d + 3) am_m313 32 [some (.ref 66), some (.int c), some (.int at1), some (.int k)] [] hp R := by
      intro n4 he
      refine xild 33 ⟨u313, _, rfl⟩ rfl rfl ?_
      refine xild 34 ⟨u313, _, rfl⟩ rfl rfl ?_
      refine xcmp_ne 37 ⟨u313, _, rfl⟩ rfl (fun c34 => ?_) (fun c34 => ?_)
      · refine xcst 42 (0) ⟨u313, _, rfl⟩ rfl (by decide) (fun z41 h41 => ?_)
        exact xret ⟨u313, _, rfl⟩ rfl (hR _ (Or.inl ⟨by assumption, fun ⟨i, i1, i2, i3⟩ => by
          rcases Nat.lt_or_ge i n with z | z
          · exact hn i i1 z i3
          · have : i = n := by omega
            subst this
            omega⟩))
      · refine xild 38 ⟨u313, _, rfl⟩ rfl rfl ?_
        refine xgoto ⟨u313, _, rfl⟩ ?_
        exact xret ⟨u313, _, rfl⟩ rfl (hR _ (Or.inr ⟨by omega, n, n1, n4, by omega⟩))
    refine xild 9 ⟨u313, _, rfl⟩ rfl rfl ?_
    refine xild 10 ⟨u313, _, rfl⟩ rfl rfl ?_
    refine xcmp_eq 13 ⟨u313, _, rfl⟩ rfl (fun c10 => ?_) (fun c10 => ?_)
    · exact j32 (by omega) (by omega)
    · refine xild 14 ⟨u313, _, rfl⟩ rfl rfl ?_
      refine xsip 17 (455) ⟨u313, _, rfl⟩ rfl (by decide) (fun z14 h14 => ?_)
      refine xcmp_gt 20 ⟨u313, _, rfl⟩ rfl (fun c17 => ?_) (fun c17 => ?_)
      · exact j32 (by omega) (by omega)
      · refine xald 21 ⟨u313, _, rfl⟩ rfl rfl ?_
        refine xild 22 ⟨u313, _, rfl⟩ rfl rfl ?_
        refine xcall 25 [.ref 66, .int _] [] hH ⟨u313, _, rfl⟩ rfl rfl rfl rfl rfl (k_next hH hP hW (by rw [ha]; exact itN_Cd hP.1 hW hc n) (fun z22 h22 => ⟨_, rfl, ?_⟩))
        refine xist 26 ⟨u313, _, rfl⟩ rfl rfl ?_
        refine xinc 29 (1) ⟨u313, _, rfl⟩ rfl rfl rfl (by decide) (by omega) (by omega) (fun z26 h26 => ?_)
        refine xgoto ⟨u313, _, rfl⟩ ?_
        refine ih (j - 1) (by omega) (n + 1) _ _ (by omega) (by omega) (by omega) (by rw [h22, ha]; rfl) (fun i i1 i2 => ?_)
        rcases Nat.lt_or_ge i n with z | z
        · exact hn i i1 z
        · have : i = n := by omega
          subst this
          rw [← ha]
          exact c10
theorem k_round {d : Nat} {hp : amH} {R : xQ} {c : Int32} (hH : bHk 84 bTT hp) (hP : P0 hp) (hW : Wh hp) (hc : Cd (rN hp 67 0) c.toInt) (hR : ∀ z : Int32, ((z.toInt = 0 ∧ ¬ per hp c.toInt) ∨ (¬ z.toInt = 0 ∧ per hp c.toInt)) → R (.inl (some (.int z))) hp) : xK (d + 3) 313 [.ref 66, .int c] hp R := by
  refine xin (M := am_m313) rfl rfl rfl ?_
  refine xald 1 ⟨u313, _, rfl⟩ rfl rfl ?_
  refine xild 2 ⟨u313, _, rfl⟩ rfl rfl ?_
  refine xcall 5 [.ref 66, .int _] [] hH ⟨u313, _, rfl⟩ rfl rfl rfl rfl rfl (k_next hH hP hW hc (fun z2 h2 => ⟨_, rfl, ?_⟩))
  refine xist 6 ⟨u313, _, rfl⟩ rfl rfl ?_
  refine xcst 7 (1) ⟨u313, _, rfl⟩ rfl (by decide) (fun z6 h6 => ?_)
  refine xist 8 ⟨u313, _, rfl⟩ rfl rfl ?_
  exact l313 hH hP hW hc hR 455 1 _ _ (by omega) (by omega) (by omega) (by rw [h2]; rfl) (fun i i1 i2 => by omega)
theorem l316 {d : Nat} {hp : amH} {R : xQ} {x y z : Int32} {c0 : Int} (hH : bHk 84 bTT hp) (hP : P0 hp) (hW : Wh hp) (hc : Cd (rN hp 67 0) c0) (hR : ∀ z : Int32, R (.inl (some (.int z))) hp) :
    ∀ (j i : Nat) (n a : Int32), i + j = 456 → a.toInt = itN hp i c0 → n.toInt = (i : Int) → (∀ k, k < i → ¬ per hp (itN hp k c0)) → xV (d + 4) am_m316 23 [some (.ref 66), some (.int x), some (.int y), some (.int z), some (.int n), some (.int a)] [] hp R := by
  intro j
  induction j using Nat.strongRecOn with
  | ind j ih =>
    intro i n a hj ha hni hn
    have hi : i < 456 := by
      rcases Nat.lt_or_ge i 456 with q | q
      · exact q
      · exact (per_ex hP.1 hW hc (fun k hk => hn k (by omega))).elim
    refine xald 24 ⟨u316, _, rfl⟩ rfl rfl ?_
    refine xild2 26 ⟨u316, _, rfl⟩ rfl rfl ?_
    refine xcall 29 [.ref 66, .int _] [] hH ⟨u316, _, rfl⟩ rfl rfl rfl rfl rfl (k_round hH hP hW (by rw [ha]; exact itN_Cd hP.1 hW hc i) (fun z26 h26 => ⟨_, rfl, ?_⟩))
    refine xif_ne 32 ⟨u316, _, rfl⟩ rfl (fun c29 => ?_) (fun c29 => ?_)
    · refine xild2 48 ⟨u316, _, rfl⟩ rfl rfl ?_
      exact xret ⟨u316, _, rfl⟩ rfl (hR _)
    · refine xinc 35 (1) ⟨u316, _, rfl⟩ rfl rfl rfl (by decide) (by omega) (by omega) (fun z32 h32 => ?_)
      refine xald 36 ⟨u316, _, rfl⟩ rfl rfl ?_
      refine xild2 38 ⟨u316, _, rfl⟩ rfl rfl ?_
      refine xcall 41 [.ref 66, .int _] [] hH ⟨u316, _, rfl⟩ rfl rfl rfl rfl rfl (k_next hH hP hW (by rw [ha]; exact itN_Cd hP.1 hW hc i) (fun z38 h38 => ⟨_, rfl, ?_⟩))
      refine xist2 43 ⟨u316, _, rfl⟩ rfl rfl ?_
      refine xgoto ⟨u316, _, rfl⟩ ?_
      refine ih (j - 1) (by omega) (i + 1) _ _ (by omega) (by rw [h38, ha]; rfl) (by omega) (fun k hk => ?_)
      rcases Nat.lt_or_ge k i with z | z
      · exact hn k z
      · have : k = i := by omega
        subst this
        rw [← ha]
        rcases h26 with g | g
        · exact g.2
        · omega
theorem l317 {d : Nat} {hp : amH} {R : xQ} {x y z : Int32} {c0 : Int} (hH : bHk 84 bTT hp) (hP : P0 hp) (hW : Wh hp) (hc : Cd (rN hp 67 0) c0) (hR : ∀ z : Int32, R (.inl (some (.int z))) hp) :
    ∀ (j i : Nat) (a : Int32), i + j = 456 → a.toInt = itN hp i c0 → (∀ k, k < i → ¬ per hp (itN hp k c0)) → xV (d + 4) am_m317 20 [some (.ref 66), some (.int x), some (.int y), some (.int z), some (.int a)] [] hp R := by
  intro j
  induction j using Nat.strongRecOn with
  | ind j ih =>
    intro i a hj ha hn
    have hi : i < 456 := by
      rcases Nat.lt_or_ge i 456 with q | q
      · exact q
      · exact (per_ex hP.1 hW hc (fun k hk => hn k (by omega))).elim
    refine xald 21 ⟨u317, _, rfl⟩ rfl rfl ?_
    refine xild2 23 ⟨u317, _, rfl⟩ rfl rfl ?_
    refine xcall 26 [.ref 66, .int _] [] hH ⟨u317, _, rfl⟩ rfl rfl rfl rfl rfl (k_round hH hP hW (by rw [ha]; exact itN_Cd hP.1 hW hc i) (fun z23 h23 => ⟨_, rfl, ?_⟩))
    refine xif_ne 29 ⟨u317, _, rfl⟩ rfl (fun c26 => ?_) (fun c26 => ?_)
    · refine xald 41 ⟨u317, _, rfl⟩ rfl rfl ?_
      refine xild2 43 ⟨u317, _, rfl⟩ rfl rfl ?_
      refine xcall 46 [.ref 66, .int _] [] hH ⟨u317, _, rfl⟩ rfl rfl rfl rfl rfl (k_round hH hP hW (by rw [ha]; exact itN_Cd hP.1 hW hc i) (fun z43 h43 => ⟨_, rfl, ?_⟩))
      exact xret ⟨u317, _, rfl⟩ rfl (hR _)
    · refine xald 30 ⟨u317, _, rfl⟩ rfl rfl ?_
      refine xild2 32 ⟨u317, _, rfl⟩ rfl rfl ?_
      refine xcall 35 [.ref 66, .int _] [] hH ⟨u317, _, rfl⟩ rfl rfl rfl rfl rfl (k_next hH hP hW (by rw [ha]; exact itN_Cd hP.1 hW hc i) (fun z32 h32 => ⟨_, rfl, ?_⟩))
      refine xist2 37 ⟨u317, _, rfl⟩ rfl rfl ?_
      refine xgoto ⟨u317, _, rfl⟩ ?_
      refine ih (j - 1) (by omega) (i + 1) _  (by omega) (by rw [h32, ha]; rfl) (fun k hk => ?_)
      rcases Nat.lt_or_ge k i with z | z
      · exact hn k z
      · have : k = i := by omega
        subst this
        rw [← ha]
        rcases h23 with g | g
        · exact g.2
        · omega
end
/-! ##### 17.q.trout ##### -/
section
/-! ===== ways by hand: trains from outside ===== -/
theorem l312z {d : Nat} {hp : amH} {R : xQ} {c : Int32} (hH : bHk 84 bTT hp) (hP : P0 hp) (hW : Wh hp) {x y : Int32} {yy : Int} (x1 : x.toInt < rN hp 67 0) (y0 : 0 ≤ y.toInt) (y1 : y.toInt < x.toInt) (hy : y.toInt = yy) (hQ : ∀ (n y1 : Int32) (v : Option Value), y1.toInt = yy + 1 → xV (d + 3) am_m312 15 [some (.ref 66), some (.int c), some (.int n), some (.int x), some (.int y1), v] [] hp R) :
    ∀ (j : Nat) (n z : Int32), z.toInt + (j : Int) = 15 → 0 ≤ z.toInt → xV (d + 3) am_m312 24 [some (.ref 66), some (.int c), some (.int n), some (.int x), some (.int y), some (.int z)] [] hp R := by
  have q1 := hP.1.1
  have q2 := hP.1.2.1
  intro j
  induction j using Nat.strongRecOn with
  | ind j ih =>
    intro n z hj z0
    refine xild2 26 ⟨u312, _, rfl⟩ rfl rfl ?_
    refine xild2 28 ⟨u312, _, rfl⟩ rfl rfl ?_
    refine xcmp_ge 31 ⟨u312, _, rfl⟩ rfl (fun c28 => ?_) (fun c28 => ?_)
    · refine xinc 64 (1) ⟨u312, _, rfl⟩ rfl rfl rfl (by decide) (by omega) (by omega) (fun z61 h61 => ?_)
      refine xgoto ⟨u312, _, rfl⟩ ?_
      exact hQ _ _ _ (by omega)
    · refine xild 32 ⟨u312, _, rfl⟩ rfl rfl ?_
      refine xald 33 ⟨u312, _, rfl⟩ rfl rfl ?_
      refine xild 34 ⟨u312, _, rfl⟩ rfl rfl ?_
      refine xild2 36 ⟨u312, _, rfl⟩ rfl rfl ?_
      refine xild2 38 ⟨u312, _, rfl⟩ rfl rfl ?_
      refine xcallS 41 [.int _, .int _, .int _] [.ref 66, .int _] hH ⟨u312, _, rfl⟩ rfl rfl rfl rfl rfl (k_code hH (by omega) (by omega) (by omega) (by omega) (by omega) (by omega) (fun z38 h38 => ⟨_, rfl, ?_⟩))
      refine xcall 44 [.ref 66, .int _] [.int _] hH ⟨u312, _, rfl⟩ rfl rfl rfl rfl rfl (k_next hH hP hW (by rw [h38]; exact cdO_Cd (by omega) (by omega) (by omega) (by omega) (by omega) (by omega) (by omega) (by omega) (by omega)) (fun z41 h41 => ⟨_, rfl, ?_⟩))
      refine xild 45 ⟨u312, _, rfl⟩ rfl rfl ?_
      refine xcmp_ne 48 ⟨u312, _, rfl⟩ rfl (fun c45 => ?_) (fun c45 => ?_)
      · refine xcst 53 (0) ⟨u312, _, rfl⟩ rfl (by decide) (fun z52 h52 => ?_)
        refine xaddw 54 ⟨u312, _, rfl⟩ rfl (fun z53 => ?_)
        refine xist 55 ⟨u312, _, rfl⟩ rfl rfl ?_
        refine xinc 58 (1) ⟨u312, _, rfl⟩ rfl rfl rfl (by decide) (by omega) (by omega) (fun z55 h55 => ?_)
        refine xgoto ⟨u312, _, rfl⟩ ?_
        exact ih (j - 1) (by omega) _ _ (by omega) (by omega)
      · refine xcst 49 (1) ⟨u312, _, rfl⟩ rfl (by decide) (fun z48 h48 => ?_)
        refine xgoto ⟨u312, _, rfl⟩ ?_
        refine xaddw 54 ⟨u312, _, rfl⟩ rfl (fun z53 => ?_)
        refine xist 55 ⟨u312, _, rfl⟩ rfl rfl ?_
        refine xinc 58 (1) ⟨u312, _, rfl⟩ rfl rfl rfl (by decide) (by omega) (by omega) (fun z55 h55 => ?_)
        refine xgoto ⟨u312, _, rfl⟩ ?_
        exact ih (j - 1) (by omega) _ _ (by omega) (by omega)
theorem l312y {d : Nat} {hp : amH} {R : xQ} {c : Int32} (hH : bHk 84 bTT hp) (hP : P0 hp) (hW : Wh hp) {x : Int32} {xx : Int} (x0 : 0 ≤ x.toInt) (x1 : x.toInt < rN hp 67 0) (hx : x.toInt = xx) (hQ : ∀ (n x1 : Int32) (v w : Option Value), x1.toInt = xx + 1 → xV (d + 3) am_m312 4 [some (.ref 66), some (.int c), some (.int n), some (.int x1), v, w] [] hp R) :
    ∀ (j : Nat) (n y : Int32) (v : Option Value), y.toInt + (j : Int) = 15 → 0 ≤ y.toInt → xV (d + 3) am_m312 15 [some (.ref 66), some (.int c), some (.int n), some (.int x), some (.int y), v] [] hp R := by
  have q1 := hP.1.1
  have q2 := hP.1.2.1
  intro j
  induction j using Nat.strongRecOn with
  | ind j ih =>
    intro n y v hj y0
    refine xild2 17 ⟨u312, _, rfl⟩ rfl rfl ?_
    refine xild 18 ⟨u312, _, rfl⟩ rfl rfl ?_
    refine xcmp_ge 21 ⟨u312, _, rfl⟩ rfl (fun c18 => ?_) (fun c18 => ?_)
    · refine xinc 70 (1) ⟨u312, _, rfl⟩ rfl rfl rfl (by decide) (by omega) (by omega) (fun z67 h67 => ?_)
      refine xgoto ⟨u312, _, rfl⟩ ?_
      exact hQ _ _ _ _ (by omega)
    · refine xcst 22 (0) ⟨u312, _, rfl⟩ rfl (by decide) (fun z21 h21 => ?_)
      refine xist2 24 ⟨u312, _, rfl⟩ rfl rfl ?_
      exact l312z hH hP hW x1 y0 (by omega) rfl (fun n1 y1 v1 k1 => ih (j - 1) (by omega) _ _ _ (by omega) (by omega)) 15 _ _ (by omega) (by omega)
theorem l312x {d : Nat} {hp : amH} {R : xQ} {c : Int32} (hH : bHk 84 bTT hp) (hP : P0 hp) (hW : Wh hp) (hR : ∀ z : Int32, R (.inl (some (.int z))) hp) :
    ∀ (j : Nat) (n x : Int32) (v w : Option Value), x.toInt + (j : Int) = 15 → 0 ≤ x.toInt → xV (d + 3) am_m312 4 [some (.ref 66), some (.int c), some (.int n), some (.int x), v, w] [] hp R := by
  have q1 := hP.1.1
  have q2 := hP.1.2.1
  intro j
  induction j using Nat.strongRecOn with
  | ind j ih =>
    intro n x v w hj x0
    refine xild 5 ⟨u312, _, rfl⟩ rfl rfl ?_
    refine xald 6 ⟨u312, _, rfl⟩ rfl rfl ?_
    refine xcall 9 [.ref 66] [.int _] hH ⟨u312, _, rfl⟩ rfl rfl rfl rfl rfl (k_points hH (fun z6 h6 => ⟨_, rfl, ?_⟩))
    refine xcmp_ge 12 ⟨u312, _, rfl⟩ rfl (fun c9 => ?_) (fun c9 => ?_)
    · refine xild 74 ⟨u312, _, rfl⟩ rfl rfl ?_
      exact xret ⟨u312, _, rfl⟩ rfl (hR _)
    · refine xcst 13 (0) ⟨u312, _, rfl⟩ rfl (by decide) (fun z12 h12 => ?_)
      refine xist2 15 ⟨u312, _, rfl⟩ rfl rfl ?_
      exact l312y hH hP hW x0 (by omega) rfl (fun n1 x1 v1 w1 k1 => ih (j - 1) (by omega) _ _ _ _ (by omega) (by omega)) 15 _ _ _ (by omega) (by omega)
theorem k_lead {d : Nat} {hp : amH} {R : xQ} {c : Int32} (hH : bHk 84 bTT hp) (hP : P0 hp) (hW : Wh hp) (hR : ∀ z : Int32, R (.inl (some (.int z))) hp) : xK (d + 3) 312 [.ref 66, .int c] hp R := by
  refine xin (M := am_m312) rfl rfl rfl ?_
  refine xcst 1 (0) ⟨u312, _, rfl⟩ rfl (by decide) (fun z0 h0 => ?_)
  refine xist 2 ⟨u312, _, rfl⟩ rfl rfl ?_
  refine xcst 3 (0) ⟨u312, _, rfl⟩ rfl (by decide) (fun z2 h2 => ?_)
  refine xist 4 ⟨u312, _, rfl⟩ rfl rfl ?_
  refine xpad 2 ?_
  exact l312x hH hP hW hR 15 _ _ _ _ (by omega) (by omega)
theorem l318z {d : Nat} {hp : amH} {R : xQ} {c : Int32} (hH : bHk 84 bTT hp) (hP : P0 hp) (hW : Wh hp) {x y : Int32} {yy : Int} (x1 : x.toInt < rN hp 67 0) (y0 : 0 ≤ y.toInt) (y1 : y.toInt < x.toInt) (hy : y.toInt = yy) (hQ : ∀ (n y1 : Int32) (v : Option Value), y1.toInt = yy + 1 → xV (d + 4) am_m318 42 [some (.ref 66), some (.int c), some (.int n), some (.int x), some (.int y1), v] [] hp R) :
    ∀ (j : Nat) (n z : Int32), z.toInt + (j : Int) = 15 → 0 ≤ z.toInt → xV (d + 4) am_m318 51 [some (.ref 66), some (.int c), some (.int n), some (.int x), some (.int y), some (.int z)] [] hp R := by
  have q1 := hP.1.1
  have q2 := hP.1.2.1
  intro j
  induction j using Nat.strongRecOn with
  | ind j ih =>
    intro n z hj z0
    refine xild2 53 ⟨u318, _, rfl⟩ rfl rfl ?_
    refine xild2 55 ⟨u318, _, rfl⟩ rfl rfl ?_
    refine xcmp_ge 58 ⟨u318, _, rfl⟩ rfl (fun c55 => ?_) (fun c55 => ?_)
    · refine xinc 91 (1) ⟨u318, _, rfl⟩ rfl rfl rfl (by decide) (by omega) (by omega) (fun z88 h88 => ?_)
      refine xgoto ⟨u318, _, rfl⟩ ?_
      exact hQ _ _ _ (by omega)
    · refine xild 59 ⟨u318, _, rfl⟩ rfl rfl ?_
      refine xald 60 ⟨u318, _, rfl⟩ rfl rfl ?_
      refine xild 61 ⟨u318, _, rfl⟩ rfl rfl ?_
      refine xild2 63 ⟨u318, _, rfl⟩ rfl rfl ?_
      refine xild2 65 ⟨u318, _, rfl⟩ rfl rfl ?_
      refine xcallS 68 [.int _, .int _, .int _] [.ref 66, .int _] hH ⟨u318, _, rfl⟩ rfl rfl rfl rfl rfl (k_code hH (by omega) (by omega) (by omega) (by omega) (by omega) (by omega) (fun z65 h65 => ⟨_, rfl, ?_⟩))
      refine xcall 71 [.ref 66, .int _] [.int _] hH ⟨u318, _, rfl⟩ rfl rfl rfl rfl rfl (k_lead hH hP hW (fun z68 => ⟨_, rfl, ?_⟩))
      refine xild 72 ⟨u318, _, rfl⟩ rfl rfl ?_
      refine xcmp_ne 75 ⟨u318, _, rfl⟩ rfl (fun c72 => ?_) (fun c72 => ?_)
      · refine xcst 80 (0) ⟨u318, _, rfl⟩ rfl (by decide) (fun z79 h79 => ?_)
        refine xaddw 81 ⟨u318, _, rfl⟩ rfl (fun z80 => ?_)
        refine xist 82 ⟨u318, _, rfl⟩ rfl rfl ?_
        refine xinc 85 (1) ⟨u318, _, rfl⟩ rfl rfl rfl (by decide) (by omega) (by omega) (fun z82 h82 => ?_)
        refine xgoto ⟨u318, _, rfl⟩ ?_
        exact ih (j - 1) (by omega) _ _ (by omega) (by omega)
      · refine xcst 76 (1) ⟨u318, _, rfl⟩ rfl (by decide) (fun z75 h75 => ?_)
        refine xgoto ⟨u318, _, rfl⟩ ?_
        refine xaddw 81 ⟨u318, _, rfl⟩ rfl (fun z80 => ?_)
        refine xist 82 ⟨u318, _, rfl⟩ rfl rfl ?_
        refine xinc 85 (1) ⟨u318, _, rfl⟩ rfl rfl rfl (by decide) (by omega) (by omega) (fun z82 h82 => ?_)
        refine xgoto ⟨u318, _, rfl⟩ ?_
        exact ih (j - 1) (by omega) _ _ (by omega) (by omega)
theorem l318y {d : Nat} {hp : amH} {R : xQ} {c : Int32} (hH : bHk 84 bTT hp) (hP : P0 hp) (hW : Wh hp) {x : Int32} {xx : Int} (x0 : 0 ≤ x.toInt) (x1 : x.toInt < rN hp 67 0) (hx : x.toInt = xx) (hQ : ∀ (n x1 : Int32) (v w : Option Value), x1.toInt = xx + 1 → xV (d + 4) am_m318 31 [some (.ref 66), some (.int c), some (.int n), some (.int x1), v, w] [] hp R) :
    ∀ (j : Nat) (n y : Int32) (v : Option Value), y.toInt + (j : Int) = 15 → 0 ≤ y.toInt → xV (d + 4) am_m318 42 [some (.ref 66), some (.int c), some (.int n), some (.int x), some (.int y), v] [] hp R := by
  have q1 := hP.1.1
  have q2 := hP.1.2.1
  intro j
  induction j using Nat.strongRecOn with
  | ind j ih =>
    intro n y v hj y0
    refine xild2 44 ⟨u318, _, rfl⟩ rfl rfl ?_
    refine xild 45 ⟨u318, _, rfl⟩ rfl rfl ?_
    refine xcmp_ge 48 ⟨u318, _, rfl⟩ rfl (fun c45 => ?_) (fun c45 => ?_)
    · refine xinc 97 (1) ⟨u318, _, rfl⟩ rfl rfl rfl (by decide) (by omega) (by omega) (fun z94 h94 => ?_)
      refine xgoto ⟨u318, _, rfl⟩ ?_
      exact hQ _ _ _ _ (by omega)
    · refine xcst 49 (0) ⟨u318, _, rfl⟩ rfl (by decide) (fun z48 h48 => ?_)
      refine xist2 51 ⟨u318, _, rfl⟩ rfl rfl ?_
      exact l318z hH hP hW x1 y0 (by omega) rfl (fun n1 y1 v1 k1 => ih (j - 1) (by omega) _ _ _ (by omega) (by omega)) 15 _ _ (by omega) (by omega)
theorem l318x {d : Nat} {hp : amH} {R : xQ} {c : Int32} (hH : bHk 84 bTT hp) (hP : P0 hp) (hW : Wh hp) (hR : ∀ z : Int32, R (.inl (some (.int z))) hp) :
    ∀ (j : Nat) (n x : Int32) (v w : Option Value), x.toInt + (j : Int) = 15 → 0 ≤ x.toInt → xV (d + 4) am_m318 31 [some (.ref 66), some (.int c), some (.int n), some (.int x), v, w] [] hp R := by
  have q1 := hP.1.1
  have q2 := hP.1.2.1
  intro j
  induction j using Nat.strongRecOn with
  | ind j ih =>
    intro n x v w hj x0
    refine xild 32 ⟨u318, _, rfl⟩ rfl rfl ?_
    refine xald 33 ⟨u318, _, rfl⟩ rfl rfl ?_
    refine xcall 36 [.ref 66] [.int _] hH ⟨u318, _, rfl⟩ rfl rfl rfl rfl rfl (k_points hH (fun z33 h33 => ⟨_, rfl, ?_⟩))
    refine xcmp_ge 39 ⟨u318, _, rfl⟩ rfl (fun c36 => ?_) (fun c36 => ?_)
    · refine xild 101 ⟨u318, _, rfl⟩ rfl rfl ?_
      exact xret ⟨u318, _, rfl⟩ rfl (hR _)
    · refine xcst 40 (0) ⟨u318, _, rfl⟩ rfl (by decide) (fun z39 h39 => ?_)
      refine xist2 42 ⟨u318, _, rfl⟩ rfl rfl ?_
      exact l318y hH hP hW x0 (by omega) rfl (fun n1 x1 v1 w1 k1 => ih (j - 1) (by omega) _ _ _ _ (by omega) (by omega)) 15 _ _ _ (by omega) (by omega)
theorem l319 {d : Nat} {hp : amH} {R : xQ} {c : Int32} {n : Nat} (hH : bHk 84 bTT hp) (hP : P0 hp) (hW : Wh hp) (hc : Cd (rN hp 67 0) c.toInt) (hn : itN hp n c.toInt = c.toInt) (hR : ∀ z : Int32, (z.toInt = 0 ∨ z.toInt = 1) → R (.inl (some (.int z))) hp) :
    ∀ (j i : Nat) (a : Int32), i + j = n → i ≤ n → a.toInt = itN hp i c.toInt → xV (d + 4) am_m319 16 [some (.ref 66), some (.int c), some (.int a)] [] hp R := by
  intro j
  induction j using Nat.strongRecOn with
  | ind j ih =>
    intro i a hj hi ha
    refine xild 17 ⟨u319, _, rfl⟩ rfl rfl ?_
    refine xild 18 ⟨u319, _, rfl⟩ rfl rfl ?_
    refine xcmp_eq 21 ⟨u319, _, rfl⟩ rfl (fun c18 => ?_) (fun c18 => ?_)
    · refine xcst 38 (1) ⟨u319, _, rfl⟩ rfl (by decide) (fun z37 h37 => ?_)
      exact xretB ⟨u319, _, rfl⟩ rfl (by omega) (hR _ (by omega))
    · have hlt : i < n := by
        rcases Nat.lt_or_ge i n with q | q
        · exact q
        · have : i = n := by omega
          subst this
          omega
      refine xild 22 ⟨u319, _, rfl⟩ rfl rfl ?_
      refine xild 23 ⟨u319, _, rfl⟩ rfl rfl ?_
      refine xcmp_ge 26 ⟨u319, _, rfl⟩ rfl (fun c23 => ?_) (fun c23 => ?_)
      · refine xald 29 ⟨u319, _, rfl⟩ rfl rfl ?_
        refine xild 30 ⟨u319, _, rfl⟩ rfl rfl ?_
        refine xcall 33 [.ref 66, .int _] [] hH ⟨u319, _, rfl⟩ rfl rfl rfl rfl rfl (k_next hH hP hW (by rw [ha]; exact itN_Cd hP.1 hW hc i) (fun z30 h30 => ⟨_, rfl, ?_⟩))
        refine xist 34 ⟨u319, _, rfl⟩ rfl rfl ?_
        refine xgoto ⟨u319, _, rfl⟩ ?_
        refine ih (j - 1) (by omega) (i + 1) _ (by omega) (by omega) (by rw [h30, ha]; rfl)
      · refine xcst 27 (0) ⟨u319, _, rfl⟩ rfl (by decide) (fun z26 h26 => ?_)
        exact xretB ⟨u319, _, rfl⟩ rfl (by omega) (hR _ (by omega))
theorem k_bgr {d : Nat} {hp : amH} {R : xQ} {c : Int32} (hH : bHk 84 bTT hp) (hP : P0 hp) (hW : Wh hp) (hc : Cd (rN hp 67 0) c.toInt) (hR : ∀ z : Int32, (z.toInt = 0 ∨ z.toInt = 1) → R (.inl (some (.int z))) hp) : xK (d + 4) 319 [.ref 66, .int c] hp R := by
  refine xin (M := am_m319) rfl rfl rfl ?_
  refine xald 1 ⟨u319, _, rfl⟩ rfl rfl ?_
  refine xild 2 ⟨u319, _, rfl⟩ rfl rfl ?_
  refine xcall 5 [.ref 66, .int _] [] hH ⟨u319, _, rfl⟩ rfl rfl rfl rfl rfl (k_round hH hP hW hc (fun z2 h2 => ⟨_, rfl, ?_⟩))
  refine xif_ne 8 ⟨u319, _, rfl⟩ rfl (fun c5 => ?_) (fun c5 => ?_)
  · refine xald 11 ⟨u319, _, rfl⟩ rfl rfl ?_
    refine xild 12 ⟨u319, _, rfl⟩ rfl rfl ?_
    refine xcall 15 [.ref 66, .int _] [] hH ⟨u319, _, rfl⟩ rfl rfl rfl rfl rfl (k_next hH hP hW hc (fun z12 h12 => ⟨_, rfl, ?_⟩))
    refine xist 16 ⟨u319, _, rfl⟩ rfl rfl ?_
    obtain ⟨n, n1, n2, n3⟩ : per hp c.toInt := by
      rcases h2 with g | g
      · omega
      · exact g.2
    exact l319 hH hP hW hc n3 hR (n - 1) 1 _ (by omega) (by omega) (by rw [h12]; rfl)
  · refine xcst 9 (0) ⟨u319, _, rfl⟩ rfl (by decide) (fun z8 h8 => ?_)
    exact xretB ⟨u319, _, rfl⟩ rfl (by omega) (hR _ (by omega))
theorem l320z {d : Nat} {hp : amH} {R : xQ} (hH : bHk 84 bTT hp) (hP : P0 hp) (hW : Wh hp) {x y : Int32} {yy : Int} (x1 : x.toInt < rN hp 67 0) (y0 : 0 ≤ y.toInt) (y1 : y.toInt < x.toInt) (hy : y.toInt = yy) (hQ : ∀ (n y1 : Int32) (v : Option Value), y1.toInt = yy + 1 → xV (d + 5) am_m320 41 [some (.ref 66), some (.int n), some (.int x), some (.int y1), v] [] hp R) :
    ∀ (j : Nat) (n z : Int32), z.toInt + (j : Int) = 15 → 0 ≤ z.toInt → xV (d + 5) am_m320 49 [some (.ref 66), some (.int n), some (.int x), some (.int y), some (.int z)] [] hp R := by
  have q1 := hP.1.1
  have q2 := hP.1.2.1
  intro j
  induction j using Nat.strongRecOn with
  | ind j ih =>
    intro n z hj z0
    refine xild2 51 ⟨u320, _, rfl⟩ rfl rfl ?_
    refine xild 52 ⟨u320, _, rfl⟩ rfl rfl ?_
    refine xcmp_ge 55 ⟨u320, _, rfl⟩ rfl (fun c52 => ?_) (fun c52 => ?_)
    · refine xinc 86 (1) ⟨u320, _, rfl⟩ rfl rfl rfl (by decide) (by omega) (by omega) (fun z83 h83 => ?_)
      refine xgoto ⟨u320, _, rfl⟩ ?_
      exact hQ _ _ _ (by omega)
    · refine xild 56 ⟨u320, _, rfl⟩ rfl rfl ?_
      refine xald 57 ⟨u320, _, rfl⟩ rfl rfl ?_
      refine xild 58 ⟨u320, _, rfl⟩ rfl rfl ?_
      refine xild 59 ⟨u320, _, rfl⟩ rfl rfl ?_
      refine xild2 61 ⟨u320, _, rfl⟩ rfl rfl ?_
      refine xcallS 64 [.int _, .int _, .int _] [.ref 66, .int _] hH ⟨u320, _, rfl⟩ rfl rfl rfl rfl rfl (k_code hH (by omega) (by omega) (by omega) (by omega) (by omega) (by omega) (fun z61 h61 => ⟨_, rfl, ?_⟩))
      refine xcall 67 [.ref 66, .int _] [.int _] hH ⟨u320, _, rfl⟩ rfl rfl rfl rfl rfl (k_bgr hH hP hW (by rw [h61]; exact cdO_Cd (by omega) (by omega) (by omega) (by omega) (by omega) (by omega) (by omega) (by omega) (by omega)) (fun z64 h64 => ⟨_, rfl, ?_⟩))
      refine xif_eq 70 ⟨u320, _, rfl⟩ rfl (fun c67 => ?_) (fun c67 => ?_)
      · refine xcst 75 (0) ⟨u320, _, rfl⟩ rfl (by decide) (fun z74 h74 => ?_)
        refine xaddw 76 ⟨u320, _, rfl⟩ rfl (fun z75 => ?_)
        refine xist 77 ⟨u320, _, rfl⟩ rfl rfl ?_
        refine xinc 80 (1) ⟨u320, _, rfl⟩ rfl rfl rfl (by decide) (by omega) (by omega) (fun z77 h77 => ?_)
        refine xgoto ⟨u320, _, rfl⟩ ?_
        exact ih (j - 1) (by omega) _ _ (by omega) (by omega)
      · refine xcst 71 (1) ⟨u320, _, rfl⟩ rfl (by decide) (fun z70 h70 => ?_)
        refine xgoto ⟨u320, _, rfl⟩ ?_
        refine xaddw 76 ⟨u320, _, rfl⟩ rfl (fun z75 => ?_)
        refine xist 77 ⟨u320, _, rfl⟩ rfl rfl ?_
        refine xinc 80 (1) ⟨u320, _, rfl⟩ rfl rfl rfl (by decide) (by omega) (by omega) (fun z77 h77 => ?_)
        refine xgoto ⟨u320, _, rfl⟩ ?_
        exact ih (j - 1) (by omega) _ _ (by omega) (by omega)
theorem l320y {d : Nat} {hp : amH} {R : xQ} (hH : bHk 84 bTT hp) (hP : P0 hp) (hW : Wh hp) {x : Int32} {xx : Int} (x0 : 0 ≤ x.toInt) (x1 : x.toInt < rN hp 67 0) (hx : x.toInt = xx) (hQ : ∀ (n x1 : Int32) (v w : Option Value), x1.toInt = xx + 1 → xV (d + 5) am_m320 31 [some (.ref 66), some (.int n), some (.int x1), v, w] [] hp R) :
    ∀ (j : Nat) (n y : Int32) (v : Option Value), y.toInt + (j : Int) = 15 → 0 ≤ y.toInt → xV (d + 5) am_m320 41 [some (.ref 66), some (.int n), some (.int x), some (.int y), v] [] hp R := by
  have q1 := hP.1.1
  have q2 := hP.1.2.1
  intro j
  induction j using Nat.strongRecOn with
  | ind j ih =>
    intro n y v hj y0
    refine xild 42 ⟨u320, _, rfl⟩ rfl rfl ?_
    refine xild 43 ⟨u320, _, rfl⟩ rfl rfl ?_
    refine xcmp_ge 46 ⟨u320, _, rfl⟩ rfl (fun c43 => ?_) (fun c43 => ?_)
    · refine xinc 92 (1) ⟨u320, _, rfl⟩ rfl rfl rfl (by decide) (by omega) (by omega) (fun z89 h89 => ?_)
      refine xgoto ⟨u320, _, rfl⟩ ?_
      exact hQ _ _ _ _ (by omega)
    · refine xcst 47 (0) ⟨u320, _, rfl⟩ rfl (by decide) (fun z46 h46 => ?_)
      refine xist2 49 ⟨u320, _, rfl⟩ rfl rfl ?_
      exact l320z hH hP hW x1 y0 (by omega) rfl (fun n1 y1 v1 k1 => ih (j - 1) (by omega) _ _ _ (by omega) (by omega)) 15 _ _ (by omega) (by omega)
theorem l320x {d : Nat} {hp : amH} {R : xQ} (hH : bHk 84 bTT hp) (hP : P0 hp) (hW : Wh hp) (hR : ∀ z : Int32, R (.inl (some (.int z))) hp) :
    ∀ (j : Nat) (n x : Int32) (v w : Option Value), x.toInt + (j : Int) = 15 → 0 ≤ x.toInt → xV (d + 5) am_m320 31 [some (.ref 66), some (.int n), some (.int x), v, w] [] hp R := by
  have q1 := hP.1.1
  have q2 := hP.1.2.1
  intro j
  induction j using Nat.strongRecOn with
  | ind j ih =>
    intro n x v w hj x0
    refine xild 32 ⟨u320, _, rfl⟩ rfl rfl ?_
    refine xald 33 ⟨u320, _, rfl⟩ rfl rfl ?_
    refine xcall 36 [.ref 66] [.int _] hH ⟨u320, _, rfl⟩ rfl rfl rfl rfl rfl (k_points hH (fun z33 h33 => ⟨_, rfl, ?_⟩))
    refine xcmp_ge 39 ⟨u320, _, rfl⟩ rfl (fun c36 => ?_) (fun c36 => ?_)
    · refine xild 96 ⟨u320, _, rfl⟩ rfl rfl ?_
      exact xret ⟨u320, _, rfl⟩ rfl (hR _)
    · refine xcst 40 (0) ⟨u320, _, rfl⟩ rfl (by decide) (fun z39 h39 => ?_)
      refine xist 41 ⟨u320, _, rfl⟩ rfl rfl ?_
      exact l320y hH hP hW x0 (by omega) rfl (fun n1 x1 v1 w1 k1 => ih (j - 1) (by omega) _ _ _ _ (by omega) (by omega)) 15 _ _ _ (by omega) (by omega)
end
/-! ##### 17.r.turns ##### -/
section
/-! ===== ways by hand: turns, orbits ===== -/
theorem u235 : bUp 0 am_m235.1 = true := by decide +kernel
theorem u236 : bUp 0 am_m236.1 = true := by decide +kernel
theorem u322 : bUp 0 am_m322.1 = true := by decide +kernel
theorem u323 : bUp 0 am_m323.1 = true := by decide +kernel
theorem u324 : bUp 0 am_m324.1 = true := by decide +kernel
theorem u326 : bUp 0 am_m326.1 = true := by decide +kernel
theorem u327 : bUp 0 am_m327.1 = true := by decide +kernel
theorem l235 {d : Nat} {hp : amH} {R : xQ} {k : Int32} (hH : bHk 84 bTT hp) (hP : P0 hp) {m : Nat} {A : Nat → Nat × Nat × Nat} (hA : Arr hp m A) (hS : Sys (tT hp) (rN hp 67 0) m A) (k0 : 0 ≤ k.toInt) (k1 : k.toInt < rN hp 67 0) (hR : ∀ z : Int32, (z.toInt = 0 ∨ z.toInt = 1) → (k.toInt = 0 → z.toInt = 1) → R (.inl (some (.int z))) hp) :
    ∀ (j : Nat) (s t : Int32), t.toInt + (j : Int) = 36 → 0 ≤ t.toInt → (s.toInt = 0 ∨ s.toInt = 1) → (k.toInt = 0 → s.toInt = 1) → xV (d + 2) am_m235 4 [some (.ref 66), some (.int k), some (.int s), some (.int t)] [] hp R := by
  have q1 := hP.1.1
  have q2 := hP.1.2.1
  have am := hA.1
  have m35 := hS.1
  intro j
  induction j using Nat.strongRecOn with
  | ind j ih =>
    intro s t hj t0 hs01 hk0
    refine xild 5 ⟨u235, _, rfl⟩ rfl rfl ?_
    refine xald 6 ⟨u235, _, rfl⟩ rfl rfl ?_
    refine xgetI 9 hH ⟨u235, _, rfl⟩ rfl rfl (fun z6 h6 => ?_)
    refine xcmp_ge 12 ⟨u235, _, rfl⟩ rfl (fun c9 => ?_) (fun c9 => ?_)
    · refine xild 69 ⟨u235, _, rfl⟩ rfl rfl ?_
      exact xretB ⟨u235, _, rfl⟩ rfl (by omega) (hR _ (by omega) hk0)
    · refine xild 13 ⟨u235, _, rfl⟩ rfl rfl ?_
      refine xif_eq 16 ⟨u235, _, rfl⟩ rfl (fun c13 => ?_) (fun c13 => ?_)
      · refine xcst 61 (0) ⟨u235, _, rfl⟩ rfl (by decide) (fun z60 h60 => ?_)
        refine xist 62 ⟨u235, _, rfl⟩ rfl rfl ?_
        refine xinc 65 (1) ⟨u235, _, rfl⟩ rfl rfl rfl (by decide) (by omega) (by omega) (fun z62 h62 => ?_)
        refine xgoto ⟨u235, _, rfl⟩ ?_
        exact ih (j - 1) (by omega) _ _ (by omega) (by omega) (by omega) (fun z => by have := hk0 z; omega)
      · obtain ⟨a1, a2, a3, a4⟩ := hA.2 t.toInt.toNat (by omega)
        have hs := hS.2.1 t.toInt.toNat (by omega)
        have hx := Sys_x hS (k := t.toInt.toNat) (by omega)
        refine xald 17 ⟨u235, _, rfl⟩ rfl rfl ?_
        refine xald 18 ⟨u235, _, rfl⟩ rfl rfl ?_
        refine xald 19 ⟨u235, _, rfl⟩ rfl rfl ?_
        refine xgetR 22 72 hH ⟨u235, _, rfl⟩ rfl rfl ?_
        refine xild 23 ⟨u235, _, rfl⟩ rfl rfl ?_
        refine xiald 24 (t).toInt.toNat hH ⟨u235, _, rfl⟩ rfl (by decide) rfl (by omega) (by omega) (fun z23 h23 => ?_)
        refine xild 25 ⟨u235, _, rfl⟩ rfl rfl ?_
        refine xcall 28 [.ref 66, .int _, .int _] [.ref 66] hH ⟨u235, _, rfl⟩ rfl rfl rfl rfl rfl (k_turn2 hH hP (by omega) (by omega) (by omega) (by omega) (fun z25 h25 => ⟨_, rfl, ?_⟩))
        refine xald 29 ⟨u235, _, rfl⟩ rfl rfl ?_
        refine xald 30 ⟨u235, _, rfl⟩ rfl rfl ?_
        refine xgetR 33 73 hH ⟨u235, _, rfl⟩ rfl rfl ?_
        refine xild 34 ⟨u235, _, rfl⟩ rfl rfl ?_
        refine xiald 35 (t).toInt.toNat hH ⟨u235, _, rfl⟩ rfl (by decide) rfl (by omega) (by omega) (fun z34 h34 => ?_)
        refine xild 36 ⟨u235, _, rfl⟩ rfl rfl ?_
        refine xcall 39 [.ref 66, .int _, .int _] [.int _, .ref 66] hH ⟨u235, _, rfl⟩ rfl rfl rfl rfl rfl (k_turn2 hH hP (by omega) (by omega) (by omega) (by omega) (fun z36 h36 => ⟨_, rfl, ?_⟩))
        refine xcall 42 [.ref 66, .int _, .int _] [] hH ⟨u235, _, rfl⟩ rfl rfl rfl rfl rfl (k_third hH (by omega) (by omega) (by omega) (by omega) (fun z39 h39 => ⟨_, rfl, ?_⟩))
        refine xald 43 ⟨u235, _, rfl⟩ rfl rfl ?_
        refine xald 44 ⟨u235, _, rfl⟩ rfl rfl ?_
        refine xgetR 47 74 hH ⟨u235, _, rfl⟩ rfl rfl ?_
        refine xild 48 ⟨u235, _, rfl⟩ rfl rfl ?_
        refine xiald 49 (t).toInt.toNat hH ⟨u235, _, rfl⟩ rfl (by decide) rfl (by omega) (by omega) (fun z48 h48 => ?_)
        refine xild 50 ⟨u235, _, rfl⟩ rfl rfl ?_
        refine xcall 53 [.ref 66, .int _, .int _] [.int _] hH ⟨u235, _, rfl⟩ rfl rfl rfl rfl rfl (k_turn2 hH hP (by omega) (by omega) (by omega) (by omega) (fun z50 h50 => ⟨_, rfl, ?_⟩))
        refine xcmp_ne 56 ⟨u235, _, rfl⟩ rfl (fun c53 => ?_) (fun c53 => ?_)
        · refine xcst 61 (0) ⟨u235, _, rfl⟩ rfl (by decide) (fun z60 h60 => ?_)
          refine xist 62 ⟨u235, _, rfl⟩ rfl rfl ?_
          refine xinc 65 (1) ⟨u235, _, rfl⟩ rfl rfl rfl (by decide) (by omega) (by omega) (fun z62 h62 => ?_)
          refine xgoto ⟨u235, _, rfl⟩ ?_
          exact ih (j - 1) (by omega) _ _ (by omega) (by omega) (by omega) (fun z => by
          have e1 : z25.toInt.toNat = (A t.toInt.toNat).1 := by omega
          have e2 : z36.toInt.toNat = (A t.toInt.toNat).2.1 := by omega
          rw [e1, e2, hx] at h39
          omega)
        · refine xcst 57 (1) ⟨u235, _, rfl⟩ rfl (by decide) (fun z56 h56 => ?_)
          refine xgoto ⟨u235, _, rfl⟩ ?_
          refine xist 62 ⟨u235, _, rfl⟩ rfl rfl ?_
          refine xinc 65 (1) ⟨u235, _, rfl⟩ rfl rfl rfl (by decide) (by omega) (by omega) (fun z62 h62 => ?_)
          refine xgoto ⟨u235, _, rfl⟩ ?_
          exact ih (j - 1) (by omega) _ _ (by omega) (by omega) (by omega) (fun z => by omega)
theorem k_itb {d : Nat} {hp : amH} {R : xQ} {k : Int32} (hH : bHk 84 bTT hp) (hP : P0 hp) {m : Nat} {A : Nat → Nat × Nat × Nat} (hA : Arr hp m A) (hS : Sys (tT hp) (rN hp 67 0) m A) (k0 : 0 ≤ k.toInt) (k1 : k.toInt < rN hp 67 0) (hR : ∀ z : Int32, (z.toInt = 0 ∨ z.toInt = 1) → (k.toInt = 0 → z.toInt = 1) → R (.inl (some (.int z))) hp) : xK (d + 2) 235 [.ref 66, .int k] hp R := by
  refine xin (M := am_m235) rfl rfl rfl ?_
  refine xcst 1 (1) ⟨u235, _, rfl⟩ rfl (by decide) (fun z0 h0 => ?_)
  refine xist 2 ⟨u235, _, rfl⟩ rfl rfl ?_
  refine xcst 3 (0) ⟨u235, _, rfl⟩ rfl (by decide) (fun z2 h2 => ?_)
  refine xist 4 ⟨u235, _, rfl⟩ rfl rfl ?_
  exact l235 hH hP hA hS k0 k1 hR 36 _ _ (by omega) (by omega) (by omega) (fun _ => by omega)
theorem l236 {d : Nat} {hp : amH} {R : xQ} (hH : bHk 84 bTT hp) (hP : P0 hp) {m : Nat} {A : Nat → Nat × Nat × Nat} (hA : Arr hp m A) (hS : Sys (tT hp) (rN hp 67 0) m A) (hR : ∀ z : Int32, 1 ≤ z.toInt → z.toInt ≤ rN hp 67 0 → R (.inl (some (.int z))) hp) :
    ∀ (j : Nat) (k : Int32), k.toInt + (j : Int) = rN hp 67 0 → 1 ≤ k.toInt → k.toInt ≤ rN hp 67 0 → xV (d + 3) am_m236 6 [some (.ref 66), some (.int k)] [] hp R := by
  have q1 := hP.1.1
  have q2 := hP.1.2.1
  intro j
  induction j using Nat.strongRecOn with
  | ind j ih =>
    intro k hj k1 k2
    refine xald 7 ⟨u236, _, rfl⟩ rfl rfl ?_
    refine xild 8 ⟨u236, _, rfl⟩ rfl rfl ?_
    refine xald 9 ⟨u236, _, rfl⟩ rfl rfl ?_
    refine xcall 12 [.ref 66] [.int _, .ref 66] hH ⟨u236, _, rfl⟩ rfl rfl rfl rfl rfl (k_points hH (fun z9 h9 => ⟨_, rfl, ?_⟩))
    refine xrem 13 (k.toInt % rN hp 67 0) ⟨u236, _, rfl⟩ rfl (by omega) (by omega) (by rw [h9]) (fun z12 h12 => ?_)
    have hz : (k.toInt = rN hp 67 0 → z12.toInt = 0) ∧ 0 ≤ z12.toInt ∧ z12.toInt < rN hp 67 0 := by
      refine ⟨fun z => ?_, ?_, ?_⟩
      · rw [h12, z, Int.emod_self]
      · rw [h12]; exact Int.emod_nonneg _ (by omega)
      · rw [h12]; exact Int.emod_lt_of_pos _ (by omega)
    refine xcall 16 [.ref 66, .int _] [] hH ⟨u236, _, rfl⟩ rfl rfl rfl rfl rfl (k_itb hH hP hA hS (by omega) (by omega) (fun z13 h13 g13 => ⟨_, rfl, ?_⟩))
    refine xif_ne 19 ⟨u236, _, rfl⟩ rfl (fun c16 => ?_) (fun c16 => ?_)
    · refine xild 26 ⟨u236, _, rfl⟩ rfl rfl ?_
      exact xret ⟨u236, _, rfl⟩ rfl (hR _ (by omega) (by omega))
    · refine xinc 22 (1) ⟨u236, _, rfl⟩ rfl rfl rfl (by decide) (by omega) (by omega) (fun z19 h19 => ?_)
      refine xgoto ⟨u236, _, rfl⟩ ?_
      exact ih (j - 1) (by omega) _ (by omega) (by omega) (by omega)
theorem k_least {d : Nat} {hp : amH} {R : xQ} (hH : bHk 84 bTT hp) (hP : P0 hp) (hR : ∀ (z : Int32) (hp1 : amH) (m : Nat) (A : Nat → Nat × Nat × Nat), bHk 84 bTT hp1 → P0 hp1 → bFr bLT hp hp1 → Arr hp1 m A → Sys (tT hp1) (rN hp1 67 0) m A → 1 ≤ z.toInt → z.toInt ≤ rN hp1 67 0 → R (.inl (some (.int z))) hp1) : xK (d + 3) 236 [.ref 66] hp R := by
  refine xin (M := am_m236) rfl rfl rfl ?_
  refine xald 1 ⟨u236, _, rfl⟩ rfl rfl ?_
  refine xcall 4 [.ref 66] [] hH ⟨u236, _, rfl⟩ rfl rfl rfl rfl rfl (k_lst hH hP (fun hp1 m hH1 hP1 F1 hL1 => ⟨_, rfl, ?_⟩))
  obtain ⟨A, hA, hS⟩ := Lst_A hP1.1 hL1
  have q1 := hP1.1.1
  have e1 : rN hp1 67 0 = rN hp 67 0 := r_fr F1 rfl
  have t1 : ∀ u v, tT hp1 u v = tT hp u v := fun u v => r_fr F1 rfl
  refine xcst 5 (1) ⟨u236, _, rfl⟩ rfl (by decide) (fun z4 h4 => ?_)
  refine xist 6 ⟨u236, _, rfl⟩ rfl rfl ?_
  exact l236 hH1 hP1 hA hS (fun z z1 z2 => hR z hp1 m A hH1 hP1 F1 hA hS z1 z2) (rN hp1 67 0 - 1).toNat _ (by omega) (by omega) (by omega)
theorem l324 {d : Nat} {hp0 : amH} {R : xQ} {t k : Int32} {p : Int} (p15 : p ≤ 15) (k0 : 0 ≤ k.toInt) (k1 : k.toInt < p) (hR : ∀ (z : Int32) hp1, (z.toInt = 0 ∨ z.toInt = 1) → bHk 84 bTT hp1 ∧ P0 hp1 ∧ bFr [] hp0 hp1 → R (.inl (some (.int z))) hp1) :
    ∀ (j : Nat) (x y z n : Int32) (hp : amH), bHk 84 bTT hp → P0 hp → bFr [] hp0 hp → rN hp 67 0 = p → n.toInt + (j : Int) = 15 → 0 ≤ n.toInt → 0 ≤ x.toInt ∧ x.toInt < p → 0 ≤ y.toInt ∧ y.toInt < p → 0 ≤ z.toInt ∧ z.toInt < p → xV (d + 2) am_m324 26 [some (.ref 66), some (.int t), some (.int k), some (.int x), some (.int y), some (.int z), some (.int n)] [] hp R := by
  intro j
  induction j using Nat.strongRecOn with
  | ind j ih =>
    intro x y z n hp hH hP hF he hj n0 hx hy hz
    refine xild2 28 ⟨u324, _, rfl⟩ rfl rfl ?_
    refine xald 29 ⟨u324, _, rfl⟩ rfl rfl ?_
    refine xcall 32 [.ref 66] [.int _] hH ⟨u324, _, rfl⟩ rfl rfl rfl rfl rfl (k_points hH (fun z29 h29 => ⟨_, rfl, ?_⟩))
    refine xcmp_ge 35 ⟨u324, _, rfl⟩ rfl (fun c32 => ?_) (fun c32 => ?_)
    · refine xcst 90 (1) ⟨u324, _, rfl⟩ rfl (by decide) (fun z89 h89 => ?_)
      exact xretB ⟨u324, _, rfl⟩ rfl (by omega) (hR _ _ (by omega) ⟨hH, hP, hF⟩)
    · refine xald 36 ⟨u324, _, rfl⟩ rfl rfl ?_
      refine xild 37 ⟨u324, _, rfl⟩ rfl rfl ?_
      refine xild 38 ⟨u324, _, rfl⟩ rfl rfl ?_
      refine xcall 41 [.ref 66, .int _, .int _] [] hH ⟨u324, _, rfl⟩ rfl rfl rfl rfl rfl (k_turn2 hH hP (by omega) (by omega) (by omega) (by omega) (fun z38 h38 => ⟨_, rfl, ?_⟩))
      refine xist 42 ⟨u324, _, rfl⟩ rfl rfl ?_
      refine xald 43 ⟨u324, _, rfl⟩ rfl rfl ?_
      refine xild2 45 ⟨u324, _, rfl⟩ rfl rfl ?_
      refine xild 46 ⟨u324, _, rfl⟩ rfl rfl ?_
      refine xcall 49 [.ref 66, .int _, .int _] [] hH ⟨u324, _, rfl⟩ rfl rfl rfl rfl rfl (k_turn2 hH hP (by omega) (by omega) (by omega) (by omega) (fun z46 h46 => ⟨_, rfl, ?_⟩))
      refine xist2 51 ⟨u324, _, rfl⟩ rfl rfl ?_
      refine xald 52 ⟨u324, _, rfl⟩ rfl rfl ?_
      refine xild2 54 ⟨u324, _, rfl⟩ rfl rfl ?_
      refine xild 55 ⟨u324, _, rfl⟩ rfl rfl ?_
      refine xcall 58 [.ref 66, .int _, .int _] [] hH ⟨u324, _, rfl⟩ rfl rfl rfl rfl rfl (k_turn2 hH hP (by omega) (by omega) (by omega) (by omega) (fun z55 h55 => ⟨_, rfl, ?_⟩))
      refine xist2 60 ⟨u324, _, rfl⟩ rfl rfl ?_
      refine xald 61 ⟨u324, _, rfl⟩ rfl rfl ?_
      refine xcst 62 (1) ⟨u324, _, rfl⟩ rfl (by decide) (fun z61 h61 => ?_)
      refine xild 63 ⟨u324, _, rfl⟩ rfl rfl ?_
      refine xshl 64 ⟨u324, _, rfl⟩ rfl ?_
      refine xcst 65 (1) ⟨u324, _, rfl⟩ rfl (by decide) (fun z64 h64 => ?_)
      refine xild2 67 ⟨u324, _, rfl⟩ rfl rfl ?_
      refine xshl 68 ⟨u324, _, rfl⟩ rfl ?_
      refine xor_ 69 ⟨u324, _, rfl⟩ rfl ?_
      refine xcst 70 (1) ⟨u324, _, rfl⟩ rfl (by decide) (fun z69 h69 => ?_)
      refine xild2 72 ⟨u324, _, rfl⟩ rfl rfl ?_
      refine xshl 73 ⟨u324, _, rfl⟩ rfl ?_
      refine xor_ 74 ⟨u324, _, rfl⟩ rfl ?_
      refine xcall 77 [.ref 66, .int _] [] hH ⟨u324, _, rfl⟩ rfl rfl rfl rfl rfl (k_num hH hP (fun z74 h74 hp74 hH74 hP74 F74 => ⟨_, rfl, ?_⟩))
      have e74 : rN hp74 67 0 = rN hp 67 0 := r_fr F74 rfl
      have t74 : ∀ u v, tT hp74 u v = tT hp u v := fun u v => r_fr F74 rfl
      refine xild 78 ⟨u324, _, rfl⟩ rfl rfl ?_
      refine xcmp_ge 81 ⟨u324, _, rfl⟩ rfl (fun c78 => ?_) (fun c78 => ?_)
      · refine xinc 86 (1) ⟨u324, _, rfl⟩ rfl rfl rfl (by decide) (by omega) (by omega) (fun z83 h83 => ?_)
        refine xgoto ⟨u324, _, rfl⟩ ?_
        exact ih (j - 1) (by omega) _ _ _ _ _ hH74 hP74 (hF.trans F74) (by omega) (by omega) (by omega) (by omega) (by omega) (by omega)
      · refine xcst 82 (0) ⟨u324, _, rfl⟩ rfl (by decide) (fun z81 h81 => ?_)
        exact xretB ⟨u324, _, rfl⟩ rfl (by omega) (hR _ _ (by omega) ⟨hH74, hP74, hF.trans F74⟩)
theorem k_loo {d : Nat} {hp : amH} {R : xQ} {t k : Int32} (hH : bHk 84 bTT hp) (hP : P0 hp) {m : Nat} {A : Nat → Nat × Nat × Nat} (hA : Arr hp m A) (hS : Sys (tT hp) (rN hp 67 0) m A) (k0 : 0 ≤ k.toInt) (k1 : k.toInt < rN hp 67 0) (t0 : 0 ≤ t.toInt) (t1 : t.toInt < (m : Int)) (hR : ∀ (z : Int32) hp1, (z.toInt = 0 ∨ z.toInt = 1) → bHk 84 bTT hp1 ∧ P0 hp1 ∧ bFr [] hp hp1 → R (.inl (some (.int z))) hp1) : xK (d + 2) 324 [.ref 66, .int t, .int k] hp R := by
  have q1 := hP.1.1
  have q2 := hP.1.2.1
  have m35 := hS.1
  refine xin (M := am_m324) rfl rfl rfl ?_
  obtain ⟨a1, a2, a3, a4⟩ := hA.2 t.toInt.toNat (by omega)
  have hs := hS.2.1 t.toInt.toNat (by omega)
  refine xald 1 ⟨u324, _, rfl⟩ rfl rfl ?_
  refine xgetR 4 72 hH ⟨u324, _, rfl⟩ rfl rfl ?_
  refine xild 5 ⟨u324, _, rfl⟩ rfl rfl ?_
  refine xiald 6 (t).toInt.toNat hH ⟨u324, _, rfl⟩ rfl (by decide) rfl (by omega) (by omega) (fun z5 h5 => ?_)
  refine xist 7 ⟨u324, _, rfl⟩ rfl rfl ?_
  refine xald 8 ⟨u324, _, rfl⟩ rfl rfl ?_
  refine xgetR 11 73 hH ⟨u324, _, rfl⟩ rfl rfl ?_
  refine xild 12 ⟨u324, _, rfl⟩ rfl rfl ?_
  refine xiald 13 (t).toInt.toNat hH ⟨u324, _, rfl⟩ rfl (by decide) rfl (by omega) (by omega) (fun z12 h12 => ?_)
  refine xist2 15 ⟨u324, _, rfl⟩ rfl rfl ?_
  refine xald 16 ⟨u324, _, rfl⟩ rfl rfl ?_
  refine xgetR 19 74 hH ⟨u324, _, rfl⟩ rfl rfl ?_
  refine xild 20 ⟨u324, _, rfl⟩ rfl rfl ?_
  refine xiald 21 (t).toInt.toNat hH ⟨u324, _, rfl⟩ rfl (by decide) rfl (by omega) (by omega) (fun z20 h20 => ?_)
  refine xist2 23 ⟨u324, _, rfl⟩ rfl rfl ?_
  refine xcst 24 (0) ⟨u324, _, rfl⟩ rfl (by decide) (fun z23 h23 => ?_)
  refine xist2 26 ⟨u324, _, rfl⟩ rfl rfl ?_
  exact l324 (p := rN hp 67 0) q2 k0 k1 hR 15 _ _ _ _ hp hH hP (bFr.refl _ _) rfl (by omega) (by omega) (by omega) (by omega) (by omega)
theorem Sys_e {hp hp1 : amH} (hF : bFr [] hp hp1) {m : Nat} {A : Nat → Nat × Nat × Nat} (hS : Sys (tT hp) (rN hp 67 0) m A) : Sys (tT hp1) (rN hp1 67 0) m A := by
  have e : tT hp1 = tT hp := funext fun u => funext fun v => r_fr hF rfl
  have e0 : rN hp1 67 0 = rN hp 67 0 := r_fr hF rfl
  rw [e, e0]
  exact hS
end
