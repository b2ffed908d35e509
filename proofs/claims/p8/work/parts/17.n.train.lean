/-! ===== ways by hand: trains: codes, next ===== -/
theorem u346 : bUp 0 am_m346.1 = true := by decide +kernel
theorem u347 : bUp 0 am_m347.1 = true := by decide +kernel
theorem k_max {d : Nat} {hp : amH} {R : xQ} {x y : Int32} (hR : ∀ z : Int32, z.toInt = max x.toInt y.toInt → R (.inl (some (.int z))) hp) : xK d 346 [.int x, .int y] hp R := by
  refine xin (M := am_m346) rfl rfl rfl ?_
  refine xild 1 ⟨u346, _, rfl⟩ rfl rfl ?_
  refine xild 2 ⟨u346, _, rfl⟩ rfl rfl ?_
  refine xcmp_lt 5 ⟨u346, _, rfl⟩ rfl (fun c2 => ?_) (fun c2 => ?_)
  · refine xild 10 ⟨u346, _, rfl⟩ rfl rfl ?_
    exact xret ⟨u346, _, rfl⟩ rfl (hR _ (by omega))
  · refine xild 6 ⟨u346, _, rfl⟩ rfl rfl ?_
    refine xgoto ⟨u346, _, rfl⟩ ?_
    exact xret ⟨u346, _, rfl⟩ rfl (hR _ (by omega))
theorem k_min {d : Nat} {hp : amH} {R : xQ} {x y : Int32} (hR : ∀ z : Int32, z.toInt = min x.toInt y.toInt → R (.inl (some (.int z))) hp) : xK d 347 [.int x, .int y] hp R := by
  refine xin (M := am_m347) rfl rfl rfl ?_
  refine xild 1 ⟨u347, _, rfl⟩ rfl rfl ?_
  refine xild 2 ⟨u347, _, rfl⟩ rfl rfl ?_
  refine xcmp_gt 5 ⟨u347, _, rfl⟩ rfl (fun c2 => ?_) (fun c2 => ?_)
  · refine xild 10 ⟨u347, _, rfl⟩ rfl rfl ?_
    exact xret ⟨u347, _, rfl⟩ rfl (hR _ (by omega))
  · refine xild 6 ⟨u347, _, rfl⟩ rfl rfl ?_
    refine xgoto ⟨u347, _, rfl⟩ ?_
    exact xret ⟨u347, _, rfl⟩ rfl (hR _ (by omega))
def cdO (a b c : Int) : Int := 256 * max a (max b c) + 16 * (a + b + c - max a (max b c) - min a (min b c)) + min a (min b c)
theorem u309 : bUp 0 am_m309.1 = true := by decide +kernel
theorem u310 : bUp 0 am_m310.1 = true := by decide +kernel
theorem u311 : bUp 0 am_m311.1 = true := by decide +kernel
theorem u312 : bUp 0 am_m312.1 = true := by decide +kernel
theorem u313 : bUp 0 am_m313.1 = true := by decide +kernel
theorem u314 : bUp 0 am_m314.1 = true := by decide +kernel
theorem u315 : bUp 0 am_m315.1 = true := by decide +kernel
theorem u316 : bUp 0 am_m316.1 = true := by decide +kernel
theorem u317 : bUp 0 am_m317.1 = true := by decide +kernel
theorem u318 : bUp 0 am_m318.1 = true := by decide +kernel
theorem u319 : bUp 0 am_m319.1 = true := by decide +kernel
theorem u320 : bUp 0 am_m320.1 = true := by decide +kernel
theorem u262 : bUp 0 am_m262.1 = true := by decide +kernel
theorem u214 : bUp 0 am_m214.1 = true := by decide +kernel
theorem u215 : bUp 0 am_m215.1 = true := by decide +kernel
theorem k_code {d : Nat} {hp : amH} {R : xQ} {a b c : Int32} (hH : bHk 84 bTT hp) (a1 : 0 ≤ a.toInt) (a2 : a.toInt < 15) (b1 : 0 ≤ b.toInt) (b2 : b.toInt < 15) (c1 : 0 ≤ c.toInt) (c2 : c.toInt < 15) (hR : ∀ z : Int32, z.toInt = cdO a.toInt b.toInt c.toInt → R (.inl (some (.int z))) hp) : xK (d + 1) 310 [.int a, .int b, .int c] hp R := by
  refine xin (M := am_m310) rfl rfl rfl ?_
  refine xild 1 ⟨u310, _, rfl⟩ rfl rfl ?_
  refine xild 2 ⟨u310, _, rfl⟩ rfl rfl ?_
  refine xild 3 ⟨u310, _, rfl⟩ rfl rfl ?_
  refine xcallS 6 [.int _, .int _] [.int _] hH ⟨u310, _, rfl⟩ rfl rfl rfl rfl rfl (k_max (fun z3 h3 => ⟨_, rfl, ?_⟩))
  refine xcallS 9 [.int _, .int _] [] hH ⟨u310, _, rfl⟩ rfl rfl rfl rfl rfl (k_max (fun z6 h6 => ⟨_, rfl, ?_⟩))
  refine xist 10 ⟨u310, _, rfl⟩ rfl rfl ?_
  refine xild 11 ⟨u310, _, rfl⟩ rfl rfl ?_
  refine xild 12 ⟨u310, _, rfl⟩ rfl rfl ?_
  refine xild 13 ⟨u310, _, rfl⟩ rfl rfl ?_
  refine xcallS 16 [.int _, .int _] [.int _] hH ⟨u310, _, rfl⟩ rfl rfl rfl rfl rfl (k_min (fun z13 h13 => ⟨_, rfl, ?_⟩))
  refine xcallS 19 [.int _, .int _] [] hH ⟨u310, _, rfl⟩ rfl rfl rfl rfl rfl (k_min (fun z16 h16 => ⟨_, rfl, ?_⟩))
  refine xist2 21 ⟨u310, _, rfl⟩ rfl rfl ?_
  refine xsip 24 (256) ⟨u310, _, rfl⟩ rfl (by decide) (fun z21 h21 => ?_)
  refine xild 25 ⟨u310, _, rfl⟩ rfl rfl ?_
  refine xmul 26 (256 * Int32.toInt z6) ⟨u310, _, rfl⟩ rfl (by rw [h21]) (by omega) (by omega) (fun z25 h25 => ?_)
  refine xbip 28 (16) ⟨u310, _, rfl⟩ rfl (by decide) (fun z26 h26 => ?_)
  refine xild 29 ⟨u310, _, rfl⟩ rfl rfl ?_
  refine xild 30 ⟨u310, _, rfl⟩ rfl rfl ?_
  refine xadd 31 _ ⟨u310, _, rfl⟩ rfl rfl (by omega) (by omega) (fun z30 h30 => ?_)
  refine xild 32 ⟨u310, _, rfl⟩ rfl rfl ?_
  refine xadd 33 _ ⟨u310, _, rfl⟩ rfl rfl (by omega) (by omega) (fun z32 h32 => ?_)
  refine xild 34 ⟨u310, _, rfl⟩ rfl rfl ?_
  refine xsub 35 _ ⟨u310, _, rfl⟩ rfl rfl (by omega) (by omega) (fun z34 h34 => ?_)
  refine xild2 37 ⟨u310, _, rfl⟩ rfl rfl ?_
  refine xsub 38 _ ⟨u310, _, rfl⟩ rfl rfl (by omega) (by omega) (fun z37 h37 => ?_)
  refine xmul 39 (16 * Int32.toInt z37) ⟨u310, _, rfl⟩ rfl (by rw [h26]) (by omega) (by omega) (fun z38 h38 => ?_)
  refine xadd 40 _ ⟨u310, _, rfl⟩ rfl rfl (by omega) (by omega) (fun z39 h39 => ?_)
  refine xild2 42 ⟨u310, _, rfl⟩ rfl rfl ?_
  refine xadd 43 _ ⟨u310, _, rfl⟩ rfl rfl (by omega) (by omega) (fun z42 h42 => ?_)
  exact xret ⟨u310, _, rfl⟩ rfl (hR _ (by unfold cdO; rw [← h3, ← h13, ← h6, ← h16]; omega))
def Cd (p c : Int) : Prop := ∃ x y z : Nat, z < y ∧ y < x ∧ (x : Int) < p ∧ c = 256 * (x : Int) + 16 * y + z
theorem cdO_Cd {p a b c : Int} (a0 : 0 ≤ a) (b0 : 0 ≤ b) (c0 : 0 ≤ c) (ap : a < p) (bp : b < p) (cp : c < p) (hab : ¬ a = b) (hbc : ¬ b = c) (hac : ¬ a = c) : Cd p (cdO a b c) := by
  unfold cdO
  exact ⟨(max a (max b c)).toNat, (a + b + c - max a (max b c) - min a (min b c)).toNat, (min a (min b c)).toNat, by omega, by omega, by omega, by omega⟩
/-- every pair is covered -/
def Wh (hp : amH) : Prop := ∀ u v : Nat, ¬ u = v → (u : Int) < rN hp 67 0 → (v : Int) < rN hp 67 0 → 0 ≤ tT hp u v
def nx (hp : amH) (c : Int) : Int := if tT hp (c / 256).toNat (c / 16 % 16).toNat = c % 16 then c else cdO (tT hp (c / 16 % 16).toNat (c % 16).toNat) (tT hp (c / 256).toNat (c % 16).toNat) (tT hp (c / 256).toNat (c / 16 % 16).toNat)
theorem Wh_t {hp : amH} (hV : Vf (rN hp 67)) (hW : Wh hp) {u v : Nat} (h : ¬ u = v) (hu : (u : Int) < rN hp 67 0) (hv : (v : Int) < rN hp 67 0) : ∃ w : Nat, (w : Int) < rN hp 67 0 ∧ tT hp u v = (w : Int) ∧ tT hp v u = (w : Int) ∧ tT hp u w = (v : Int) ∧ tT hp v w = (u : Int) := by
  have h15 := hV.2.1
  have h0 := hW u v h hu hv
  rcases Vf_m hV (a := u) (b := v) (by omega) (by omega) with g | ⟨w, hw, g⟩
  · omega
  · obtain ⟨t1, t2, t3, t4, t5, t6, t7, t8, t9, t10, t11⟩ := Vf_t hV (by omega) (by omega) g
    exact ⟨w, t3, g, t7, t8, t9⟩
theorem nx_Cd {hp : amH} (hV : Vf (rN hp 67)) (hW : Wh hp) {c : Int} (hc : Cd (rN hp 67 0) c) : Cd (rN hp 67 0) (nx hp c) := by
  obtain ⟨x, y, z, h1, h2, h3, rfl⟩ := hc
  have h15 := hV.2.1
  unfold nx
  rw [show ((256 * (x : Int) + 16 * y + z) / 256).toNat = x by omega, show ((256 * (x : Int) + 16 * y + z) / 16 % 16).toNat = y by omega, show (256 * (x : Int) + 16 * y + z) % 16 = z by omega, show ((z : Nat) : Int).toNat = z by omega]
  split
  · exact ⟨x, y, z, h1, h2, h3, rfl⟩
  · obtain ⟨a, a1, a2, a3, a4, a5⟩ := Wh_t hV hW (u := y) (v := z) (by omega) (by omega) (by omega)
    obtain ⟨b, b1, b2, b3, b4, b5⟩ := Wh_t hV hW (u := x) (v := z) (by omega) (by omega) (by omega)
    obtain ⟨e, e1, e2, e3, e4, e5⟩ := Wh_t hV hW (u := x) (v := y) (by omega) (by omega) (by omega)
    rw [a2, b2, e2]
    refine cdO_Cd (by omega) (by omega) (by omega) a1 b1 e1 (fun q => ?_) (fun q => ?_) (fun q => ?_)
    · have q : a = b := by omega
      subst q
      omega
    · have q : b = e := by omega
      subst q
      omega
    · have q : a = e := by omega
      subst q
      omega
theorem k_next {d : Nat} {hp : amH} {R : xQ} {c : Int32} (hH : bHk 84 bTT hp) (hP : P0 hp) (hW : Wh hp) (hc : Cd (rN hp 67 0) c.toInt) (hR : ∀ z : Int32, z.toInt = nx hp c.toInt → R (.inl (some (.int z))) hp) : xK (d + 2) 311 [.ref 66, .int c] hp R := by
  refine xin (M := am_m311) rfl rfl rfl ?_
  have q2 := hP.1.2.1
  have hc2 := hc
  obtain ⟨x, y, z, z1, z2, z3, hc⟩ := hc
  refine xild 1 ⟨u311, _, rfl⟩ rfl rfl ?_
  refine xsip 4 (256) ⟨u311, _, rfl⟩ rfl (by decide) (fun z1 h1 => ?_)
  refine xdiv 5 (Int32.toInt c / 256) ⟨u311, _, rfl⟩ rfl (by omega) (by omega) (by rw [h1]) (fun z4 h4 => ?_)
  refine xist 6 ⟨u311, _, rfl⟩ rfl rfl ?_
  refine xild 7 ⟨u311, _, rfl⟩ rfl rfl ?_
  refine xbip 9 (16) ⟨u311, _, rfl⟩ rfl (by decide) (fun z7 h7 => ?_)
  refine xdiv 10 (Int32.toInt c / 16) ⟨u311, _, rfl⟩ rfl (by omega) (by omega) (by rw [h7]) (fun z9 h9 => ?_)
  refine xbip 12 (16) ⟨u311, _, rfl⟩ rfl (by decide) (fun z10 h10 => ?_)
  refine xrem 13 (Int32.toInt z9 % 16) ⟨u311, _, rfl⟩ rfl (by omega) (by omega) (by rw [h10]) (fun z12 h12 => ?_)
  refine xist 14 ⟨u311, _, rfl⟩ rfl rfl ?_
  refine xild 15 ⟨u311, _, rfl⟩ rfl rfl ?_
  refine xbip 17 (16) ⟨u311, _, rfl⟩ rfl (by decide) (fun z15 h15 => ?_)
  refine xrem 18 (Int32.toInt c % 16) ⟨u311, _, rfl⟩ rfl (by omega) (by omega) (by rw [h15]) (fun z17 h17 => ?_)
  refine xist2 20 ⟨u311, _, rfl⟩ rfl rfl ?_
  have ex : z4.toInt = (x : Int) := by omega
  have ey : z12.toInt = (y : Int) := by omega
  have ez : z17.toInt = (z : Int) := by omega
  have nxe : nx hp c.toInt = if tT hp x y = z then c.toInt else cdO (tT hp y z) (tT hp x z) (tT hp x y) := by
    unfold nx
    rw [show (c.toInt / 256).toNat = x by omega, show (c.toInt / 16 % 16).toNat = y by omega, show c.toInt % 16 = z by omega, show ((z : Nat) : Int).toNat = z by omega]
  refine xald 21 ⟨u311, _, rfl⟩ rfl rfl ?_
  refine xild 22 ⟨u311, _, rfl⟩ rfl rfl ?_
  refine xild 23 ⟨u311, _, rfl⟩ rfl rfl ?_
  refine xcall 26 [.ref 66, .int _, .int _] [] hH ⟨u311, _, rfl⟩ rfl rfl rfl rfl rfl (k_third hH (by omega) (by omega) (by omega) (by omega) (fun z23 h23 => ⟨_, rfl, ?_⟩))
  rw [show z4.toInt.toNat = x by omega, show z12.toInt.toNat = y by omega] at h23
  refine xild2 28 ⟨u311, _, rfl⟩ rfl rfl ?_
  refine xcmp_ne 31 ⟨u311, _, rfl⟩ rfl (fun c28 => ?_) (fun c28 => ?_)
  · refine xald 34 ⟨u311, _, rfl⟩ rfl rfl ?_
    refine xild 35 ⟨u311, _, rfl⟩ rfl rfl ?_
    refine xild2 37 ⟨u311, _, rfl⟩ rfl rfl ?_
    refine xcall 40 [.ref 66, .int _, .int _] [] hH ⟨u311, _, rfl⟩ rfl rfl rfl rfl rfl (k_third hH (by omega) (by omega) (by omega) (by omega) (fun z37 h37 => ⟨_, rfl, ?_⟩))
    rw [show z12.toInt.toNat = y by omega, show z17.toInt.toNat = z by omega] at h37
    obtain ⟨w1, a1, a2, -⟩ := Wh_t hP.1 hW (u := y) (v := z) (by omega) (by omega) (by omega)
    refine xald 41 ⟨u311, _, rfl⟩ rfl rfl ?_
    refine xild 42 ⟨u311, _, rfl⟩ rfl rfl ?_
    refine xild2 44 ⟨u311, _, rfl⟩ rfl rfl ?_
    refine xcall 47 [.ref 66, .int _, .int _] [.int _] hH ⟨u311, _, rfl⟩ rfl rfl rfl rfl rfl (k_third hH (by omega) (by omega) (by omega) (by omega) (fun z44 h44 => ⟨_, rfl, ?_⟩))
    rw [show z4.toInt.toNat = x by omega, show z17.toInt.toNat = z by omega] at h44
    obtain ⟨w2, b1, b2, -⟩ := Wh_t hP.1 hW (u := x) (v := z) (by omega) (by omega) (by omega)
    refine xald 48 ⟨u311, _, rfl⟩ rfl rfl ?_
    refine xild 49 ⟨u311, _, rfl⟩ rfl rfl ?_
    refine xild 50 ⟨u311, _, rfl⟩ rfl rfl ?_
    refine xcall 53 [.ref 66, .int _, .int _] [.int _, .int _] hH ⟨u311, _, rfl⟩ rfl rfl rfl rfl rfl (k_third hH (by omega) (by omega) (by omega) (by omega) (fun z50 h50 => ⟨_, rfl, ?_⟩))
    rw [show z4.toInt.toNat = x by omega, show z12.toInt.toNat = y by omega] at h50
    obtain ⟨w3, d1, d2, -⟩ := Wh_t hP.1 hW (u := x) (v := y) (by omega) (by omega) (by omega)
    refine xcallS 56 [.int _, .int _, .int _] [] hH ⟨u311, _, rfl⟩ rfl rfl rfl rfl rfl (k_code hH (by omega) (by omega) (by omega) (by omega) (by omega) (by omega) (fun z53 h53 => ⟨_, rfl, ?_⟩))
    exact xret ⟨u311, _, rfl⟩ rfl (hR _ (by rw [nxe, if_neg (by omega), h53, h37, h44, h50]))
  · refine xild 32 ⟨u311, _, rfl⟩ rfl rfl ?_
    exact xret ⟨u311, _, rfl⟩ rfl (hR _ (by rw [nxe, if_pos (by omega)]))
