/-! ===== sets of three points ===== -/
/-- a set of three points by its bits -/
theorem b3_s {x : Int32} {i : Nat} (hx : x.toInt = (i : Int)) (hi : i < 32768) (h : (bcF x).toInt = 3) : ∃ a b c : Nat, (ntF x).toInt = (a : Int) ∧ (ntF (x &&& (x - 1))).toInt = (b : Int) ∧ a < b ∧ b < c ∧ c < 15 ∧ i = m3 a b c := by
  have e : x = Int32.ofNat i := Int32.toInt_inj.mp (by rw [hx, Int32.toInt_ofNat_of_lt (by omega)])
  have k := b3_all hi
  unfold b3Ok at k
  dsimp only at k
  rw [← e, h] at k
  have k : (decide (0 ≤ (ntF x).toInt) && (decide (0 ≤ (ntF (x &&& (x - 1))).toInt) && (Nat.blt (ntF x).toInt.toNat (ntF (x &&& (x - 1))).toInt.toNat && (Nat.blt (ntF (x &&& (x - 1))).toInt.toNat (ntF ((x &&& (x - 1)) &&& ((x &&& (x - 1)) - 1))).toInt.toNat && (Nat.blt (ntF ((x &&& (x - 1)) &&& ((x &&& (x - 1)) - 1))).toInt.toNat 15 && Nat.beq i (2 ^ (ntF x).toInt.toNat ||| 2 ^ (ntF (x &&& (x - 1))).toInt.toNat ||| 2 ^ (ntF ((x &&& (x - 1)) &&& ((x &&& (x - 1)) - 1))).toInt.toNat)))))) = true := k
  simp only [Bool.and_eq_true, decide_eq_true_eq] at k
  obtain ⟨k0, k1, k2, k3, k4, k5⟩ := k
  have k2 : (ntF x).toInt.toNat < (ntF (x &&& (x - 1))).toInt.toNat := Nat.le_of_ble_eq_true k2
  have k3 : (ntF (x &&& (x - 1))).toInt.toNat < (ntF ((x &&& (x - 1)) &&& ((x &&& (x - 1)) - 1))).toInt.toNat := Nat.le_of_ble_eq_true k3
  have k4 : (ntF ((x &&& (x - 1)) &&& ((x &&& (x - 1)) - 1))).toInt.toNat < 15 := Nat.le_of_ble_eq_true k4
  exact ⟨_, _, _, by omega, by omega, k2, k3, k4, Nat.eq_of_beq_eq_true k5⟩
theorem bc_m3 : ∀ x y z : Fin 15, x.1 < y.1 → y.1 < z.1 → bcN (m3 x.1 y.1 z.1) = 3 := by decide +kernel
/-- three points in their order are known by their set -/
theorem m3_inj {a b c x y z : Nat} (h : m3 a b c = m3 x y z) (h1 : a < b) (h2 : b < c) (h3 : x < y) (h4 : y < z) : a = x ∧ b = y ∧ c = z := by
  have q := m3_eq h
  have q1 := (q a).mp (Or.inl rfl)
  have q2 := (q b).mp (Or.inr (Or.inl rfl))
  have q3 := (q c).mp (Or.inr (Or.inr rfl))
  omega
theorem nm_neg {V : Nat} {T : sT} (hT : sOk V T) {m : Nat} (h : ∀ x y z : Nat, x < y → y < z → m = m3 x y z → ¬ T x y = (z : Int)) : nmT T m = -1 := by
  refine nmF_no _ _ (fun j h1 h2 => fun e => ?_)
  obtain ⟨g1, g2, g3⟩ := trL_get 225 j (show j < (trL T 225).length by omega)
  obtain ⟨z, ez, k1, k2, k3⟩ := tr_pts hT g1
  refine h _ _ z k1 k2 ?_ ez
  rw [← e]
  unfold mk3
  rw [ez, Int.toNat_natCast]
theorem u221 : bUp 0 am_m221.1 = true := by decide +kernel
theorem bc_of {x : Int32} {i : Nat} (hx : x.toInt = (i : Int)) : (bcF x).toInt = bcN i := by
  have : x = Int32.ofNat i := Int32.toInt_inj.mp (by
    have := aMax x
    rw [hx, Int32.toInt_ofNat_of_lt (by omega)])
  unfold bcN
  rw [← this]
theorem k_ntR {d : Nat} {hp : amH} {R : xQ} {x : Int32} (hR : ∀ z : Int32, z.toInt = (ntF x).toInt → R (.inl (some (.int z))) hp) : xK d 342 [.int x] hp R :=
  ⟨am_m342, rfl, w_ntz (hR _ rfl)⟩
/-- whether a set is a triple -/
theorem k_rist {d : Nat} {hp : amH} {R : xQ} {V i : Nat} {T : sT} {x : Int32} (hH : bHk 84 bTT hp) (hB : rdOk hp V T) (hx : x.toInt = (i : Int)) (hi : i < 32768) (hR : ∀ r : Int32, ((r.toInt = 1 ∧ ¬ nmT T i = -1) ∨ (r.toInt = 0 ∧ nmT T i = -1)) → R (.inl (some (.int r))) hp) : xK (d + 1) 221 [.ref 66, .int x] hp R := by
  have hV := hB.2.1.2.1
  refine xin (M := am_m221) rfl rfl rfl ?_
  refine xild 1 ⟨u221, _, rfl⟩ rfl rfl ?_
  refine xcallS 4 [.int _] [] hH ⟨u221, _, rfl⟩ rfl rfl rfl rfl rfl (k_bc hx (fun z1 h1 => ⟨_, rfl, ?_⟩))
  have hbc := bc_of hx
  refine xcst 5 (3) ⟨u221, _, rfl⟩ rfl (by decide) (fun z4 h4 => ?_)
  refine xcmp_eq 8 ⟨u221, _, rfl⟩ rfl (fun c5 => ?_) (fun c5 => ?_)
  · obtain ⟨a, b, c, n1, n2, l1, l2, l3, rfl⟩ := b3_s hx hi (by omega)
    refine xild 11 ⟨u221, _, rfl⟩ rfl rfl ?_
    refine xcallS 14 [.int _] [] hH ⟨u221, _, rfl⟩ rfl rfl rfl rfl rfl (k_ntR (fun z11 h11 => ⟨_, rfl, ?_⟩))
    refine xist 15 ⟨u221, _, rfl⟩ rfl rfl ?_
    refine xild 16 ⟨u221, _, rfl⟩ rfl rfl ?_
    refine xild 17 ⟨u221, _, rfl⟩ rfl rfl ?_
    refine xcst 18 (1) ⟨u221, _, rfl⟩ rfl (by decide) (fun z17 h17 => ?_)
    refine xsub 19 _ ⟨u221, _, rfl⟩ rfl rfl (by omega) (by omega) (fun z18 h18 => ?_)
    have e18 : z18 = x - 1 := Int32.toInt_inj.mp (by rw [Int32.toInt_sub, show (1 : Int32).toInt = 1 by decide, aBmod (by omega) (by omega)]; omega)
    subst e18
    refine xand 20 ⟨u221, _, rfl⟩ rfl ?_
    refine xcallS 23 [.int _] [] hH ⟨u221, _, rfl⟩ rfl rfl rfl rfl rfl (k_ntR (fun z20 h20 => ⟨_, rfl, ?_⟩))
    refine xist 24 ⟨u221, _, rfl⟩ rfl rfl ?_
    refine xald 25 ⟨u221, _, rfl⟩ rfl rfl ?_
    refine xild 26 ⟨u221, _, rfl⟩ rfl rfl ?_
    refine xild 27 ⟨u221, _, rfl⟩ rfl rfl ?_
    refine xcall 30 [.ref 66, .int _, .int _] [] hH ⟨u221, _, rfl⟩ rfl rfl rfl rfl rfl (k_third hH (by omega) (by omega) (by omega) (by omega) (fun z27 h27 => ⟨_, rfl, ?_⟩))
    rw [show z11.toInt.toNat = a by omega, show z20.toInt.toNat = b by omega, hB.2.2.1 a b (by omega) (by omega)] at h27
    refine xist2 32 ⟨u221, _, rfl⟩ rfl rfl ?_
    refine xild2 34 ⟨u221, _, rfl⟩ rfl rfl ?_
    refine xcst 35 (-1) ⟨u221, _, rfl⟩ rfl (by decide) (fun z34 h34 => ?_)
    refine xcmp_eq 38 ⟨u221, _, rfl⟩ rfl (fun c35 => ?_) (fun c35 => ?_)
    · refine xcst 53 (0) ⟨u221, _, rfl⟩ rfl (by decide) (fun z52 h52 => ?_)
      exact xretB ⟨u221, _, rfl⟩ rfl (by omega) (hR _ (Or.inr ⟨h52, nm_no hB.2.1 (by omega) (by omega) (by omega) (by omega)⟩))
    · refine xild 39 ⟨u221, _, rfl⟩ rfl rfl ?_
      refine xild2 41 ⟨u221, _, rfl⟩ rfl rfl ?_
      refine xshr 42 ⟨u221, _, rfl⟩ rfl ?_
      refine xcst 43 (1) ⟨u221, _, rfl⟩ rfl (by decide) (fun z42 h42 => ?_)
      refine xand 44 ⟨u221, _, rfl⟩ rfl ?_
      obtain ⟨w, ew, w1, w2, w3, w4, w5, w6, -⟩ := sOk_at hB.2.1 (rfl : T a b = _) (by omega)
      have hb1 := i_bit hx hi (show z27.toInt = (w : Int) by omega) (by omega) h42
      rw [m3_test] at hb1
      have hb2 : decide (w = a ∨ w = b ∨ w = c) = true ∨ decide (w = a ∨ w = b ∨ w = c) = false := by cases decide (w = a ∨ w = b ∨ w = c) <;> simp
      have hb3 : ((x >>> (z27 &&& 31) &&& z42).toInt = 1 ∧ w = c) ∨ ((x >>> (z27 &&& 31) &&& z42).toInt = 0 ∧ ¬ w = c) := by
        rcases hb2 with g | g
        · rw [g] at hb1; exact Or.inl ⟨hb1, by have := of_decide_eq_true g; omega⟩
        · rw [g] at hb1; exact Or.inr ⟨hb1, by have := of_decide_eq_false g; omega⟩
      refine xcst 45 (1) ⟨u221, _, rfl⟩ rfl (by decide) (fun z44 h44 => ?_)
      refine xcmp_ne 48 ⟨u221, _, rfl⟩ rfl (fun c45 => ?_) (fun c45 => ?_)
      · refine xcst 53 (0) ⟨u221, _, rfl⟩ rfl (by decide) (fun z52 h52 => ?_)
        exact xretB ⟨u221, _, rfl⟩ rfl (by omega) (hR _ (Or.inr ⟨h52, nm_no hB.2.1 (by omega) (by omega) (by omega) (by omega)⟩))
      · refine xcst 49 (1) ⟨u221, _, rfl⟩ rfl (by decide) (fun z48 h48 => ?_)
        refine xgoto ⟨u221, _, rfl⟩ ?_
        exact xretB ⟨u221, _, rfl⟩ rfl (by omega) (hR _ (Or.inl ⟨h48, by obtain ⟨t, t1, t2, t3⟩ := nm_of hB.2.1 (a := a) (b := b) (c := c) (by omega); omega⟩))
  · refine xcst 9 (0) ⟨u221, _, rfl⟩ rfl (by decide) (fun z8 h8 => ?_)
    exact xretB ⟨u221, _, rfl⟩ rfl (by omega) (hR _ (Or.inr ⟨h8, nm_neg hB.2.1 (fun x y z q1 q2 q3 q4 => by obtain ⟨w, ew, w1, w2, w3, -⟩ := sOk_at hB.2.1 q4 (by omega); have e9 : bcN (m3 x y z) = 3 := bc_m3 ⟨x, by omega⟩ ⟨y, by omega⟩ ⟨z, by omega⟩ q1 q2; rw [← q3] at e9; omega)⟩))
