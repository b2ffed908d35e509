/-! ===== ways by hand: trains from outside ===== -/
theorem l312z {d : Nat} {hp : amH} {R : xQ} {c : Int32} (hH : bHk 84 bTT hp) (hP : P0 hp) (hW : Wh hp) {x y : Int32} {yy : Int} (x1 : x.toInt < rN hp 67 0) (y0 : 0 ≤ y.toInt) (y1 : y.toInt < x.toInt) (hy : y.toInt = yy) (hQ : ∀ (n y1 : Int32) (v : Option Value), y1.toInt = yy + 1 → xV (d + 3) am_m312 15 [some (.ref 66), some (.int c), some (.int n), some (.int x), some (.int y1), v] [] hp R) :
    ∀ (j : Nat) (n z : Int32), z.toInt + (j : Int) = 15 → 0 ≤ z.toInt → xV (d + 3) am_m312 24 [some (.ref 66), some (.int c), some (.int n), some (.int x), some (.int y), some (.int z)] [] hp R := by
  have q1 := hP.1.1
  have q2 := hP.1.2.1
  intro j
  induction j using Nat.strongRecOn with
  | ind j ih =>
    intro n z hj z0
    refine xild2 26 ⟨u312, _, rfl⟩ rfl rfl ?_
    refine xild2 28 ⟨u312, _, rfl⟩ rfl rfl ?_
    refine xcmp_ge 31 ⟨u312, _, rfl⟩ rfl (fun c28 => ?_) (fun c28 => ?_)
    · refine xinc 64 (1) ⟨u312, _, rfl⟩ rfl rfl rfl (by decide) (by omega) (by omega) (fun z61 h61 => ?_)
      refine xgoto ⟨u312, _, rfl⟩ ?_
      exact hQ _ _ _ (by omega)
    · refine xild 32 ⟨u312, _, rfl⟩ rfl rfl ?_
      refine xald 33 ⟨u312, _, rfl⟩ rfl rfl ?_
      refine xild 34 ⟨u312, _, rfl⟩ rfl rfl ?_
      refine xild2 36 ⟨u312, _, rfl⟩ rfl rfl ?_
      refine xild2 38 ⟨u312, _, rfl⟩ rfl rfl ?_
      refine xcallS 41 [.int _, .int _, .int _] [.ref 66, .int _] hH ⟨u312, _, rfl⟩ rfl rfl rfl rfl rfl (k_code hH (by omega) (by omega) (by omega) (by omega) (by omega) (by omega) (fun z38 h38 => ⟨_, rfl, ?_⟩))
      refine xcall 44 [.ref 66, .int _] [.int _] hH ⟨u312, _, rfl⟩ rfl rfl rfl rfl rfl (k_next hH hP hW (by rw [h38]; exact cdO_Cd (by omega) (by omega) (by omega) (by omega) (by omega) (by omega) (by omega) (by omega) (by omega)) (fun z41 h41 => ⟨_, rfl, ?_⟩))
      refine xild 45 ⟨u312, _, rfl⟩ rfl rfl ?_
      refine xcmp_ne 48 ⟨u312, _, rfl⟩ rfl (fun c45 => ?_) (fun c45 => ?_)
      · refine xcst 53 (0) ⟨u312, _, rfl⟩ rfl (by decide) (fun z52 h52 => ?_)
        refine xaddw 54 ⟨u312, _, rfl⟩ rfl (fun z53 => ?_)
        refine xist 55 ⟨u312, _, rfl⟩ rfl rfl ?_
        refine xinc 58 (1) ⟨u312, _, rfl⟩ rfl rfl rfl (by decide) (by omega) (by omega) (fun z55 h55 => ?_)
        refine xgoto ⟨u312, _, rfl⟩ ?_
        exact ih (j - 1) (by omega) _ _ (by omega) (by omega)
      · refine xcst 49 (1) ⟨u312, _, rfl⟩ rfl (by decide) (fun z48 h48 => ?_)
        refine xgoto ⟨u312, _, rfl⟩ ?_
        refine xaddw 54 ⟨u312, _, rfl⟩ rfl (fun z53 => ?_)
        refine xist 55 ⟨u312, _, rfl⟩ rfl rfl ?_
        refine xinc 58 (1) ⟨u312, _, rfl⟩ rfl rfl rfl (by decide) (by omega) (by omega) (fun z55 h55 => ?_)
        refine xgoto ⟨u312, _, rfl⟩ ?_
        exact ih (j - 1) (by omega) _ _ (by omega) (by omega)
theorem l312y {d : Nat} {hp : amH} {R : xQ} {c : Int32} (hH : bHk 84 bTT hp) (hP : P0 hp) (hW : Wh hp) {x : Int32} {xx : Int} (x0 : 0 ≤ x.toInt) (x1 : x.toInt < rN hp 67 0) (hx : x.toInt = xx) (hQ : ∀ (n x1 : Int32) (v w : Option Value), x1.toInt = xx + 1 → xV (d + 3) am_m312 4 [some (.ref 66), some (.int c), some (.int n), some (.int x1), v, w] [] hp R) :
    ∀ (j : Nat) (n y : Int32) (v : Option Value), y.toInt + (j : Int) = 15 → 0 ≤ y.toInt → xV (d + 3) am_m312 15 [some (.ref 66), some (.int c), some (.int n), some (.int x), some (.int y), v] [] hp R := by
  have q1 := hP.1.1
  have q2 := hP.1.2.1
  intro j
  induction j using Nat.strongRecOn with
  | ind j ih =>
    intro n y v hj y0
    refine xild2 17 ⟨u312, _, rfl⟩ rfl rfl ?_
    refine xild 18 ⟨u312, _, rfl⟩ rfl rfl ?_
    refine xcmp_ge 21 ⟨u312, _, rfl⟩ rfl (fun c18 => ?_) (fun c18 => ?_)
    · refine xinc 70 (1) ⟨u312, _, rfl⟩ rfl rfl rfl (by decide) (by omega) (by omega) (fun z67 h67 => ?_)
      refine xgoto ⟨u312, _, rfl⟩ ?_
      exact hQ _ _ _ _ (by omega)
    · refine xcst 22 (0) ⟨u312, _, rfl⟩ rfl (by decide) (fun z21 h21 => ?_)
      refine xist2 24 ⟨u312, _, rfl⟩ rfl rfl ?_
      exact l312z hH hP hW x1 y0 (by omega) rfl (fun n1 y1 v1 k1 => ih (j - 1) (by omega) _ _ _ (by omega) (by omega)) 15 _ _ (by omega) (by omega)
theorem l312x {d : Nat} {hp : amH} {R : xQ} {c : Int32} (hH : bHk 84 bTT hp) (hP : P0 hp) (hW : Wh hp) (hR : ∀ z : Int32, R (.inl (some (.int z))) hp) :
    ∀ (j : Nat) (n x : Int32) (v w : Option Value), x.toInt + (j : Int) = 15 → 0 ≤ x.toInt → xV (d + 3) am_m312 4 [some (.ref 66), some (.int c), some (.int n), some (.int x), v, w] [] hp R := by
  have q1 := hP.1.1
  have q2 := hP.1.2.1
  intro j
  induction j using Nat.strongRecOn with
  | ind j ih =>
    intro n x v w hj x0
    refine xild 5 ⟨u312, _, rfl⟩ rfl rfl ?_
    refine xald 6 ⟨u312, _, rfl⟩ rfl rfl ?_
    refine xcall 9 [.ref 66] [.int _] hH ⟨u312, _, rfl⟩ rfl rfl rfl rfl rfl (k_points hH (fun z6 h6 => ⟨_, rfl, ?_⟩))
    refine xcmp_ge 12 ⟨u312, _, rfl⟩ rfl (fun c9 => ?_) (fun c9 => ?_)
    · refine xild 74 ⟨u312, _, rfl⟩ rfl rfl ?_
      exact xret ⟨u312, _, rfl⟩ rfl (hR _)
    · refine xcst 13 (0) ⟨u312, _, rfl⟩ rfl (by decide) (fun z12 h12 => ?_)
      refine xist2 15 ⟨u312, _, rfl⟩ rfl rfl ?_
      exact l312y hH hP hW x0 (by omega) rfl (fun n1 x1 v1 w1 k1 => ih (j - 1) (by omega) _ _ _ _ (by omega) (by omega)) 15 _ _ _ (by omega) (by omega)
theorem k_lead {d : Nat} {hp : amH} {R : xQ} {c : Int32} (hH : bHk 84 bTT hp) (hP : P0 hp) (hW : Wh hp) (hR : ∀ z : Int32, R (.inl (some (.int z))) hp) : xK (d + 3) 312 [.ref 66, .int c] hp R := by
  refine xin (M := am_m312) rfl rfl rfl ?_
  refine xcst 1 (0) ⟨u312, _, rfl⟩ rfl (by decide) (fun z0 h0 => ?_)
  refine xist 2 ⟨u312, _, rfl⟩ rfl rfl ?_
  refine xcst 3 (0) ⟨u312, _, rfl⟩ rfl (by decide) (fun z2 h2 => ?_)
  refine xist 4 ⟨u312, _, rfl⟩ rfl rfl ?_
  refine xpad 2 ?_
  exact l312x hH hP hW hR 15 _ _ _ _ (by omega) (by omega)
theorem l318z {d : Nat} {hp : amH} {R : xQ} {c : Int32} (hH : bHk 84 bTT hp) (hP : P0 hp) (hW : Wh hp) {x y : Int32} {yy : Int} (x1 : x.toInt < rN hp 67 0) (y0 : 0 ≤ y.toInt) (y1 : y.toInt < x.toInt) (hy : y.toInt = yy) (hQ : ∀ (n y1 : Int32) (v : Option Value), y1.toInt = yy + 1 → xV (d + 4) am_m318 42 [some (.ref 66), some (.int c), some (.int n), some (.int x), some (.int y1), v] [] hp R) :
    ∀ (j : Nat) (n z : Int32), z.toInt + (j : Int) = 15 → 0 ≤ z.toInt → xV (d + 4) am_m318 51 [some (.ref 66), some (.int c), some (.int n), some (.int x), some (.int y), some (.int z)] [] hp R := by
  have q1 := hP.1.1
  have q2 := hP.1.2.1
  intro j
  induction j using Nat.strongRecOn with
  | ind j ih =>
    intro n z hj z0
    refine xild2 53 ⟨u318, _, rfl⟩ rfl rfl ?_
    refine xild2 55 ⟨u318, _, rfl⟩ rfl rfl ?_
    refine xcmp_ge 58 ⟨u318, _, rfl⟩ rfl (fun c55 => ?_) (fun c55 => ?_)
    · refine xinc 91 (1) ⟨u318, _, rfl⟩ rfl rfl rfl (by decide) (by omega) (by omega) (fun z88 h88 => ?_)
      refine xgoto ⟨u318, _, rfl⟩ ?_
      exact hQ _ _ _ (by omega)
    · refine xild 59 ⟨u318, _, rfl⟩ rfl rfl ?_
      refine xald 60 ⟨u318, _, rfl⟩ rfl rfl ?_
      refine xild 61 ⟨u318, _, rfl⟩ rfl rfl ?_
      refine xild2 63 ⟨u318, _, rfl⟩ rfl rfl ?_
      refine xild2 65 ⟨u318, _, rfl⟩ rfl rfl ?_
      refine xcallS 68 [.int _, .int _, .int _] [.ref 66, .int _] hH ⟨u318, _, rfl⟩ rfl rfl rfl rfl rfl (k_code hH (by omega) (by omega) (by omega) (by omega) (by omega) (by omega) (fun z65 h65 => ⟨_, rfl, ?_⟩))
      refine xcall 71 [.ref 66, .int _] [.int _] hH ⟨u318, _, rfl⟩ rfl rfl rfl rfl rfl (k_lead hH hP hW (fun z68 => ⟨_, rfl, ?_⟩))
      refine xild 72 ⟨u318, _, rfl⟩ rfl rfl ?_
      refine xcmp_ne 75 ⟨u318, _, rfl⟩ rfl (fun c72 => ?_) (fun c72 => ?_)
      · refine xcst 80 (0) ⟨u318, _, rfl⟩ rfl (by decide) (fun z79 h79 => ?_)
        refine xaddw 81 ⟨u318, _, rfl⟩ rfl (fun z80 => ?_)
        refine xist 82 ⟨u318, _, rfl⟩ rfl rfl ?_
        refine xinc 85 (1) ⟨u318, _, rfl⟩ rfl rfl rfl (by decide) (by omega) (by omega) (fun z82 h82 => ?_)
        refine xgoto ⟨u318, _, rfl⟩ ?_
        exact ih (j - 1) (by omega) _ _ (by omega) (by omega)
      · refine xcst 76 (1) ⟨u318, _, rfl⟩ rfl (by decide) (fun z75 h75 => ?_)
        refine xgoto ⟨u318, _, rfl⟩ ?_
        refine xaddw 81 ⟨u318, _, rfl⟩ rfl (fun z80 => ?_)
        refine xist 82 ⟨u318, _, rfl⟩ rfl rfl ?_
        refine xinc 85 (1) ⟨u318, _, rfl⟩ rfl rfl rfl (by decide) (by omega) (by omega) (fun z82 h82 => ?_)
        refine xgoto ⟨u318, _, rfl⟩ ?_
        exact ih (j - 1) (by omega) _ _ (by omega) (by omega)
theorem l318y {d : Nat} {hp : amH} {R : xQ} {c : Int32} (hH : bHk 84 bTT hp) (hP : P0 hp) (hW : Wh hp) {x : Int32} {xx : Int} (x0 : 0 ≤ x.toInt) (x1 : x.toInt < rN hp 67 0) (hx : x.toInt = xx) (hQ : ∀ (n x1 : Int32) (v w : Option Value), x1.toInt = xx + 1 → xV (d + 4) am_m318 31 [some (.ref 66), some (.int c), some (.int n), some (.int x1), v, w] [] hp R) :
    ∀ (j : Nat) (n y : Int32) (v : Option Value), y.toInt + (j : Int) = 15 → 0 ≤ y.toInt → xV (d + 4) am_m318 42 [some (.ref 66), some (.int c), some (.int n), some (.int x), some (.int y), v] [] hp R := by
  have q1 := hP.1.1
  have q2 := hP.1.2.1
  intro j
  induction j using Nat.strongRecOn with
  | ind j ih =>
    intro n y v hj y0
    refine xild2 44 ⟨u318, _, rfl⟩ rfl rfl ?_
    refine xild 45 ⟨u318, _, rfl⟩ rfl rfl ?_
    refine xcmp_ge 48 ⟨u318, _, rfl⟩ rfl (fun c45 => ?_) (fun c45 => ?_)
    · refine xinc 97 (1) ⟨u318, _, rfl⟩ rfl rfl rfl (by decide) (by omega) (by omega) (fun z94 h94 => ?_)
      refine xgoto ⟨u318, _, rfl⟩ ?_
      exact hQ _ _ _ _ (by omega)
    · refine xcst 49 (0) ⟨u318, _, rfl⟩ rfl (by decide) (fun z48 h48 => ?_)
      refine xist2 51 ⟨u318, _, rfl⟩ rfl rfl ?_
      exact l318z hH hP hW x1 y0 (by omega) rfl (fun n1 y1 v1 k1 => ih (j - 1) (by omega) _ _ _ (by omega) (by omega)) 15 _ _ (by omega) (by omega)
theorem l318x {d : Nat} {hp : amH} {R : xQ} {c : Int32} (hH : bHk 84 bTT hp) (hP : P0 hp) (hW : Wh hp) (hR : ∀ z : Int32, R (.inl (some (.int z))) hp) :
    ∀ (j : Nat) (n x : Int32) (v w : Option Value), x.toInt + (j : Int) = 15 → 0 ≤ x.toInt → xV (d + 4) am_m318 31 [some (.ref 66), some (.int c), some (.int n), some (.int x), v, w] [] hp R := by
  have q1 := hP.1.1
  have q2 := hP.1.2.1
  intro j
  induction j using Nat.strongRecOn with
  | ind j ih =>
    intro n x v w hj x0
    refine xild 32 ⟨u318, _, rfl⟩ rfl rfl ?_
    refine xald 33 ⟨u318, _, rfl⟩ rfl rfl ?_
    refine xcall 36 [.ref 66] [.int _] hH ⟨u318, _, rfl⟩ rfl rfl rfl rfl rfl (k_points hH (fun z33 h33 => ⟨_, rfl, ?_⟩))
    refine xcmp_ge 39 ⟨u318, _, rfl⟩ rfl (fun c36 => ?_) (fun c36 => ?_)
    · refine xild 101 ⟨u318, _, rfl⟩ rfl rfl ?_
      exact xret ⟨u318, _, rfl⟩ rfl (hR _)
    · refine xcst 40 (0) ⟨u318, _, rfl⟩ rfl (by decide) (fun z39 h39 => ?_)
      refine xist2 42 ⟨u318, _, rfl⟩ rfl rfl ?_
      exact l318y hH hP hW x0 (by omega) rfl (fun n1 x1 v1 w1 k1 => ih (j - 1) (by omega) _ _ _ _ (by omega) (by omega)) 15 _ _ _ (by omega) (by omega)
theorem l319 {d : Nat} {hp : amH} {R : xQ} {c : Int32} {n : Nat} (hH : bHk 84 bTT hp) (hP : P0 hp) (hW : Wh hp) (hc : Cd (rN hp 67 0) c.toInt) (hn : itN hp n c.toInt = c.toInt) (hR : ∀ z : Int32, (z.toInt = 0 ∨ z.toInt = 1) → R (.inl (some (.int z))) hp) :
    ∀ (j i : Nat) (a : Int32), i + j = n → i ≤ n → a.toInt = itN hp i c.toInt → xV (d + 4) am_m319 16 [some (.ref 66), some (.int c), some (.int a)] [] hp R := by
  intro j
  induction j using Nat.strongRecOn with
  | ind j ih =>
    intro i a hj hi ha
    refine xild 17 ⟨u319, _, rfl⟩ rfl rfl ?_
    refine xild 18 ⟨u319, _, rfl⟩ rfl rfl ?_
    refine xcmp_eq 21 ⟨u319, _, rfl⟩ rfl (fun c18 => ?_) (fun c18 => ?_)
    · refine xcst 38 (1) ⟨u319, _, rfl⟩ rfl (by decide) (fun z37 h37 => ?_)
      exact xretB ⟨u319, _, rfl⟩ rfl (by omega) (hR _ (by omega))
    · have hlt : i < n := by
        rcases Nat.lt_or_ge i n with q | q
        · exact q
        · have : i = n := by omega
          subst this
          omega
      refine xild 22 ⟨u319, _, rfl⟩ rfl rfl ?_
      refine xild 23 ⟨u319, _, rfl⟩ rfl rfl ?_
      refine xcmp_ge 26 ⟨u319, _, rfl⟩ rfl (fun c23 => ?_) (fun c23 => ?_)
      · refine xald 29 ⟨u319, _, rfl⟩ rfl rfl ?_
        refine xild 30 ⟨u319, _, rfl⟩ rfl rfl ?_
        refine xcall 33 [.ref 66, .int _] [] hH ⟨u319, _, rfl⟩ rfl rfl rfl rfl rfl (k_next hH hP hW (by rw [ha]; exact itN_Cd hP.1 hW hc i) (fun z30 h30 => ⟨_, rfl, ?_⟩))
        refine xist 34 ⟨u319, _, rfl⟩ rfl rfl ?_
        refine xgoto ⟨u319, _, rfl⟩ ?_
        refine ih (j - 1) (by omega) (i + 1) _ (by omega) (by omega) (by rw [h30, ha]; rfl)
      · refine xcst 27 (0) ⟨u319, _, rfl⟩ rfl (by decide) (fun z26 h26 => ?_)
        exact xretB ⟨u319, _, rfl⟩ rfl (by omega) (hR _ (by omega))
theorem k_bgr {d : Nat} {hp : amH} {R : xQ} {c : Int32} (hH : bHk 84 bTT hp) (hP : P0 hp) (hW : Wh hp) (hc : Cd (rN hp 67 0) c.toInt) (hR : ∀ z : Int32, (z.toInt = 0 ∨ z.toInt = 1) → R (.inl (some (.int z))) hp) : xK (d + 4) 319 [.ref 66, .int c] hp R := by
  refine xin (M := am_m319) rfl rfl rfl ?_
  refine xald 1 ⟨u319, _, rfl⟩ rfl rfl ?_
  refine xild 2 ⟨u319, _, rfl⟩ rfl rfl ?_
  refine xcall 5 [.ref 66, .int _] [] hH ⟨u319, _, rfl⟩ rfl rfl rfl rfl rfl (k_round hH hP hW hc (fun z2 h2 => ⟨_, rfl, ?_⟩))
  refine xif_ne 8 ⟨u319, _, rfl⟩ rfl (fun c5 => ?_) (fun c5 => ?_)
  · refine xald 11 ⟨u319, _, rfl⟩ rfl rfl ?_
    refine xild 12 ⟨u319, _, rfl⟩ rfl rfl ?_
    refine xcall 15 [.ref 66, .int _] [] hH ⟨u319, _, rfl⟩ rfl rfl rfl rfl rfl (k_next hH hP hW hc (fun z12 h12 => ⟨_, rfl, ?_⟩))
    refine xist 16 ⟨u319, _, rfl⟩ rfl rfl ?_
    obtain ⟨n, n1, n2, n3⟩ : per hp c.toInt := by
      rcases h2 with g | g
      · omega
      · exact g.2
    exact l319 hH hP hW hc n3 hR (n - 1) 1 _ (by omega) (by omega) (by rw [h12]; rfl)
  · refine xcst 9 (0) ⟨u319, _, rfl⟩ rfl (by decide) (fun z8 h8 => ?_)
    exact xretB ⟨u319, _, rfl⟩ rfl (by omega) (hR _ (by omega))
theorem l320z {d : Nat} {hp : amH} {R : xQ} (hH : bHk 84 bTT hp) (hP : P0 hp) (hW : Wh hp) {x y : Int32} {yy : Int} (x1 : x.toInt < rN hp 67 0) (y0 : 0 ≤ y.toInt) (y1 : y.toInt < x.toInt) (hy : y.toInt = yy) (hQ : ∀ (n y1 : Int32) (v : Option Value), y1.toInt = yy + 1 → xV (d + 5) am_m320 41 [some (.ref 66), some (.int n), some (.int x), some (.int y1), v] [] hp R) :
    ∀ (j : Nat) (n z : Int32), z.toInt + (j : Int) = 15 → 0 ≤ z.toInt → xV (d + 5) am_m320 49 [some (.ref 66), some (.int n), some (.int x), some (.int y), some (.int z)] [] hp R := by
  have q1 := hP.1.1
  have q2 := hP.1.2.1
  intro j
  induction j using Nat.strongRecOn with
  | ind j ih =>
    intro n z hj z0
    refine xild2 51 ⟨u320, _, rfl⟩ rfl rfl ?_
    refine xild 52 ⟨u320, _, rfl⟩ rfl rfl ?_
    refine xcmp_ge 55 ⟨u320, _, rfl⟩ rfl (fun c52 => ?_) (fun c52 => ?_)
    · refine xinc 86 (1) ⟨u320, _, rfl⟩ rfl rfl rfl (by decide) (by omega) (by omega) (fun z83 h83 => ?_)
      refine xgoto ⟨u320, _, rfl⟩ ?_
      exact hQ _ _ _ (by omega)
    · refine xild 56 ⟨u320, _, rfl⟩ rfl rfl ?_
      refine xald 57 ⟨u320, _, rfl⟩ rfl rfl ?_
      refine xild 58 ⟨u320, _, rfl⟩ rfl rfl ?_
      refine xild 59 ⟨u320, _, rfl⟩ rfl rfl ?_
      refine xild2 61 ⟨u320, _, rfl⟩ rfl rfl ?_
      refine xcallS 64 [.int _, .int _, .int _] [.ref 66, .int _] hH ⟨u320, _, rfl⟩ rfl rfl rfl rfl rfl (k_code hH (by omega) (by omega) (by omega) (by omega) (by omega) (by omega) (fun z61 h61 => ⟨_, rfl, ?_⟩))
      refine xcall 67 [.ref 66, .int _] [.int _] hH ⟨u320, _, rfl⟩ rfl rfl rfl rfl rfl (k_bgr hH hP hW (by rw [h61]; exact cdO_Cd (by omega) (by omega) (by omega) (by omega) (by omega) (by omega) (by omega) (by omega) (by omega)) (fun z64 h64 => ⟨_, rfl, ?_⟩))
      refine xif_eq 70 ⟨u320, _, rfl⟩ rfl (fun c67 => ?_) (fun c67 => ?_)
      · refine xcst 75 (0) ⟨u320, _, rfl⟩ rfl (by decide) (fun z74 h74 => ?_)
        refine xaddw 76 ⟨u320, _, rfl⟩ rfl (fun z75 => ?_)
        refine xist 77 ⟨u320, _, rfl⟩ rfl rfl ?_
        refine xinc 80 (1) ⟨u320, _, rfl⟩ rfl rfl rfl (by decide) (by omega) (by omega) (fun z77 h77 => ?_)
        refine xgoto ⟨u320, _, rfl⟩ ?_
        exact ih (j - 1) (by omega) _ _ (by omega) (by omega)
      · refine xcst 71 (1) ⟨u320, _, rfl⟩ rfl (by decide) (fun z70 h70 => ?_)
        refine xgoto ⟨u320, _, rfl⟩ ?_
        refine xaddw 76 ⟨u320, _, rfl⟩ rfl (fun z75 => ?_)
        refine xist 77 ⟨u320, _, rfl⟩ rfl rfl ?_
        refine xinc 80 (1) ⟨u320, _, rfl⟩ rfl rfl rfl (by decide) (by omega) (by omega) (fun z77 h77 => ?_)
        refine xgoto ⟨u320, _, rfl⟩ ?_
        exact ih (j - 1) (by omega) _ _ (by omega) (by omega)
theorem l320y {d : Nat} {hp : amH} {R : xQ} (hH : bHk 84 bTT hp) (hP : P0 hp) (hW : Wh hp) {x : Int32} {xx : Int} (x0 : 0 ≤ x.toInt) (x1 : x.toInt < rN hp 67 0) (hx : x.toInt = xx) (hQ : ∀ (n x1 : Int32) (v w : Option Value), x1.toInt = xx + 1 → xV (d + 5) am_m320 31 [some (.ref 66), some (.int n), some (.int x1), v, w] [] hp R) :
    ∀ (j : Nat) (n y : Int32) (v : Option Value), y.toInt + (j : Int) = 15 → 0 ≤ y.toInt → xV (d + 5) am_m320 41 [some (.ref 66), some (.int n), some (.int x), some (.int y), v] [] hp R := by
  have q1 := hP.1.1
  have q2 := hP.1.2.1
  intro j
  induction j using Nat.strongRecOn with
  | ind j ih =>
    intro n y v hj y0
    refine xild 42 ⟨u320, _, rfl⟩ rfl rfl ?_
    refine xild 43 ⟨u320, _, rfl⟩ rfl rfl ?_
    refine xcmp_ge 46 ⟨u320, _, rfl⟩ rfl (fun c43 => ?_) (fun c43 => ?_)
    · refine xinc 92 (1) ⟨u320, _, rfl⟩ rfl rfl rfl (by decide) (by omega) (by omega) (fun z89 h89 => ?_)
      refine xgoto ⟨u320, _, rfl⟩ ?_
      exact hQ _ _ _ _ (by omega)
    · refine xcst 47 (0) ⟨u320, _, rfl⟩ rfl (by decide) (fun z46 h46 => ?_)
      refine xist2 49 ⟨u320, _, rfl⟩ rfl rfl ?_
      exact l320z hH hP hW x1 y0 (by omega) rfl (fun n1 y1 v1 k1 => ih (j - 1) (by omega) _ _ _ (by omega) (by omega)) 15 _ _ (by omega) (by omega)
theorem l320x {d : Nat} {hp : amH} {R : xQ} (hH : bHk 84 bTT hp) (hP : P0 hp) (hW : Wh hp) (hR : ∀ z : Int32, R (.inl (some (.int z))) hp) :
    ∀ (j : Nat) (n x : Int32) (v w : Option Value), x.toInt + (j : Int) = 15 → 0 ≤ x.toInt → xV (d + 5) am_m320 31 [some (.ref 66), some (.int n), some (.int x), v, w] [] hp R := by
  have q1 := hP.1.1
  have q2 := hP.1.2.1
  intro j
  induction j using Nat.strongRecOn with
  | ind j ih =>
    intro n x v w hj x0
    refine xild 32 ⟨u320, _, rfl⟩ rfl rfl ?_
    refine xald 33 ⟨u320, _, rfl⟩ rfl rfl ?_
    refine xcall 36 [.ref 66] [.int _] hH ⟨u320, _, rfl⟩ rfl rfl rfl rfl rfl (k_points hH (fun z33 h33 => ⟨_, rfl, ?_⟩))
    refine xcmp_ge 39 ⟨u320, _, rfl⟩ rfl (fun c36 => ?_) (fun c36 => ?_)
    · refine xild 96 ⟨u320, _, rfl⟩ rfl rfl ?_
      exact xret ⟨u320, _, rfl⟩ rfl (hR _)
    · refine xcst 40 (0) ⟨u320, _, rfl⟩ rfl (by decide) (fun z39 h39 => ?_)
      refine xist 41 ⟨u320, _, rfl⟩ rfl rfl ?_
      exact l320y hH hP hW x0 (by omega) rfl (fun n1 x1 v1 w1 k1 => ih (j - 1) (by omega) _ _ _ _ (by omega) (by omega)) 15 _ _ _ (by omega) (by omega)
