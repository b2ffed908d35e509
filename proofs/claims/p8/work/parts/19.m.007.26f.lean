/-! ===== the class's boards: triples put, taken ===== -/
theorem m3_test (x y z i : Nat) : (m3 x y z).testBit i = decide (i = x ∨ i = y ∨ i = z) := by
  unfold m3
  rw [Nat.testBit_or, Nat.testBit_or, Nat.testBit_two_pow, Nat.testBit_two_pow, Nat.testBit_two_pow]
  by_cases h1 : i = x
  · simp [h1]
  · by_cases h2 : i = y
    · simp [h2]
    · by_cases h3 : i = z
      · simp [h3]
      · have a1 : ¬ x = i := fun e => h1 e.symm
        have a2 : ¬ y = i := fun e => h2 e.symm
        have a3 : ¬ z = i := fun e => h3 e.symm
        simp [h1, h2, h3, a1, a2, a3]
theorem p2_test (x i : Nat) : (2 ^ x).testBit i = decide (i = x) := by
  rw [Nat.testBit_two_pow]
  by_cases h : x = i
  · simp [h]
  · have : ¬ i = x := fun e => h e.symm
    simp [h, this]
/-- the points of a triple that go with one of its points are those not covered with it -/
theorem tk_eq {V x p q : Nat} {T : sT} (hV : V ≤ 15) (hp : p < V) (hq : q < V) (hx : x < V) (hpq : ¬ p = q) (hxp : ¬ x = p) (hxq : ¬ x = q) {m : Nat} (hm : ∀ i, m.testBit i = decide (i = x ∨ i = p ∨ i = q)) : (opN V T x &&& m = ndif m (2 ^ x)) ↔ (T x p = -1 ∧ T x q = -1) := by
  constructor
  · intro h
    have g : ∀ i, (i = p ∨ i = q) → T x i = -1 := by
      intro i hi
      have e := congrArg (fun k => Nat.testBit k i) h
      simp only [Nat.testBit_and, nd_test, op_test hV, hm, p2_test] at e
      rw [decide_eq_true (show i = x ∨ i = p ∨ i = q by omega), decide_eq_false (show ¬ i = x by omega)] at e
      simp only [Bool.and_true, Bool.not_false, decide_eq_true_eq] at e
      exact e.2.2.2
    exact ⟨g p (Or.inl rfl), g q (Or.inr rfl)⟩
  · intro ⟨h1, h2⟩
    apply Nat.eq_of_testBit_eq
    intro i
    simp only [Nat.testBit_and, nd_test, op_test hV, hm, p2_test]
    by_cases e1 : i = x
    · subst e1
      simp
    · by_cases e2 : i = p
      · subst e2
        simp [e1, hx, hp, hxp, h1]
      · by_cases e3 : i = q
        · subst e3
          simp [e1, hx, hq, hxq, h2]
        · simp [e1, e2, e3]
theorem sy_free {V : Nat} {T : sT} (h : sOk V T) {p q : Nat} (e : T p q = -1) : T q p = -1 := by
  rcases h.2.2 q p with g | ⟨k, g1, g2, g3, g4, g5, g6, g7, g8, g9⟩
  · exact g
  · rw [e] at g8; omega
theorem k_tak {d : Nat} {hp : amH} {R : xQ} {o V x y z : Nat} {T : sT} {s : Int32} (ho : bo o) (hH : bHk 84 bTT hp) (hB : bdOk hp o V T) (hs : s.toInt = ((m3 x y z : Nat) : Int)) (q1 : x < y) (q2 : y < z) (q3 : z < V) (hR : ∀ r : Int32, ((r.toInt = 1 ∧ sFree T x y z) ∨ (r.toInt = 0 ∧ ¬ sFree T x y z)) → R (.inl (some (.int r))) hp) : xK (d + 2) 13 [.ref o, .int s] hp R := by
  have hV : V ≤ 15 := hB.2.1.2.1
  obtain ⟨M0, M1, M2⟩ := mem3 q1 q2 (by omega)
  have hm := m3_lt (x := x) (y := y) (z := z) (by omega) (by omega) (by omega)
  have tx := tk_eq (T := T) (x := x) (p := y) (q := z) hV (by omega) (by omega) (by omega) (by omega) (by omega) (by omega) (fun i => m3_test x y z i)
  have ty := tk_eq (T := T) (x := y) (p := x) (q := z) hV (by omega) (by omega) (by omega) (by omega) (by omega) (by omega) (m := m3 x y z) (fun i => by rw [m3_test, decide_eq_decide]; omega)
  have sy := fun {p q : Nat} (e : T p q = -1) => sy_free hB.2.1 e
  have key : sFree T x y z ↔ (opN V T x &&& m3 x y z = ndif (m3 x y z) (2 ^ x) ∧ opN V T y &&& m3 x y z = ndif (m3 x y z) (2 ^ y)) := by
    rw [tx, ty]
    exact ⟨fun g => ⟨⟨g.1, g.2.2⟩, sy g.1, g.2.1⟩, fun g => ⟨g.1.1, g.2.2, g.1.2⟩⟩
  refine xin (M := am_m13) rfl rfl (by unfold xAv; simp [amOk, bo_lt ho, Value.category]) ?_
  refine xild 1 ⟨u13, _, rfl⟩ rfl rfl ?_
  refine xcst 2 (0) ⟨u13, _, rfl⟩ rfl (by decide) (fun z1 h1 => ?_)
  refine xcallS 5 [.int _, .int _] [] hH ⟨u13, _, rfl⟩ rfl rfl rfl rfl rfl (k_mem hH hs hm (i := 0) (by omega) (fun z2 h2 => ⟨_, rfl, ?_⟩))
  refine xist 6 ⟨u13, _, rfl⟩ rfl rfl ?_
  refine xild 7 ⟨u13, _, rfl⟩ rfl rfl ?_
  refine xcst 8 (1) ⟨u13, _, rfl⟩ rfl (by decide) (fun z7 h7 => ?_)
  refine xcallS 11 [.int _, .int _] [] hH ⟨u13, _, rfl⟩ rfl rfl rfl rfl rfl (k_mem hH hs hm (i := 1) (by omega) (fun z8 h8 => ⟨_, rfl, ?_⟩))
  refine xist 12 ⟨u13, _, rfl⟩ rfl rfl ?_
  refine xald 13 ⟨u13, _, rfl⟩ rfl rfl ?_
  refine xild 14 ⟨u13, _, rfl⟩ rfl rfl ?_
  refine xcallC 17 (o := o) [.int _] [] hH ⟨u13, _, rfl⟩ rfl rfl (bo_lt ho) (bo_T ho) (by decide) rfl ⟨rfl, rfl, rfl, rfl⟩ rfl (k_opn ho hH hB (x := x) (by omega) (fun z14 h14 => ⟨_, rfl, ?_⟩))
  refine xild 18 ⟨u13, _, rfl⟩ rfl rfl ?_
  refine xand 19 ⟨u13, _, rfl⟩ rfl ?_
  refine xild 20 ⟨u13, _, rfl⟩ rfl rfl ?_
  refine xcst 21 (1) ⟨u13, _, rfl⟩ rfl (by decide) (fun z20 h20 => ?_)
  refine xild 22 ⟨u13, _, rfl⟩ rfl rfl ?_
  refine xshl 23 ⟨u13, _, rfl⟩ rfl ?_
  refine xcst 24 (-1) ⟨u13, _, rfl⟩ rfl (by decide) (fun z23 h23 => ?_)
  refine xxor 25 ⟨u13, _, rfl⟩ rfl ?_
  refine xand 26 ⟨u13, _, rfl⟩ rfl ?_
  have n17 := (i_and h14 hs (op_lt V T x)).1
  have n25 := i_nd hs (i_shl (n := x) h20 (show z2.toInt = (x : Int) by omega) (by omega)).1 hm (by have := (i_shl (n := x) h20 (show z2.toInt = (x : Int) by omega) (by omega)).2; omega) h23
  refine xcmp_ne 29 ⟨u13, _, rfl⟩ rfl (fun c26 => ?_) (fun c26 => ?_)
  · refine xcst 51 (0) ⟨u13, _, rfl⟩ rfl (by decide) (fun z50 h50 => ?_)
    exact xretB ⟨u13, _, rfl⟩ rfl (by omega) (hR _ (Or.inr ⟨by omega, fun g => by have := key.mp g; omega⟩))
  · refine xald 30 ⟨u13, _, rfl⟩ rfl rfl ?_
    refine xild 31 ⟨u13, _, rfl⟩ rfl rfl ?_
    refine xcallC 34 (o := o) [.int _] [] hH ⟨u13, _, rfl⟩ rfl rfl (bo_lt ho) (bo_T ho) (by decide) rfl ⟨rfl, rfl, rfl, rfl⟩ rfl (k_opn ho hH hB (x := y) (by omega) (fun z31 h31 => ⟨_, rfl, ?_⟩))
    refine xild 35 ⟨u13, _, rfl⟩ rfl rfl ?_
    refine xand 36 ⟨u13, _, rfl⟩ rfl ?_
    refine xild 37 ⟨u13, _, rfl⟩ rfl rfl ?_
    refine xcst 38 (1) ⟨u13, _, rfl⟩ rfl (by decide) (fun z37 h37 => ?_)
    refine xild 39 ⟨u13, _, rfl⟩ rfl rfl ?_
    refine xshl 40 ⟨u13, _, rfl⟩ rfl ?_
    refine xcst 41 (-1) ⟨u13, _, rfl⟩ rfl (by decide) (fun z40 h40 => ?_)
    refine xxor 42 ⟨u13, _, rfl⟩ rfl ?_
    refine xand 43 ⟨u13, _, rfl⟩ rfl ?_
    have n34 := (i_and h31 hs (op_lt V T y)).1
    have n42 := i_nd hs (i_shl (n := y) h37 (show z8.toInt = (y : Int) by omega) (by omega)).1 hm (by have := (i_shl (n := y) h37 (show z8.toInt = (y : Int) by omega) (by omega)).2; omega) h40
    refine xcmp_ne 46 ⟨u13, _, rfl⟩ rfl (fun c43 => ?_) (fun c43 => ?_)
    · refine xcst 51 (0) ⟨u13, _, rfl⟩ rfl (by decide) (fun z50 h50 => ?_)
      exact xretB ⟨u13, _, rfl⟩ rfl (by omega) (hR _ (Or.inr ⟨by omega, fun g => by have := key.mp g; omega⟩))
    · refine xcst 47 (1) ⟨u13, _, rfl⟩ rfl (by decide) (fun z46 h46 => ?_)
      refine xgoto ⟨u13, _, rfl⟩ ?_
      exact xretB ⟨u13, _, rfl⟩ rfl (by omega) (hR _ (Or.inl ⟨by omega, key.mpr ⟨by omega, by omega⟩⟩))
theorem op_put {V x y z p : Nat} {T : sT} (hV : V ≤ 15) (hx : x < V) (hy : y < V) (hz : z < V) (hxy : ¬ x = y) (hyz : ¬ y = z) (hxz : ¬ x = z) : opN V (sPut T x y z) p = if p = x then ndif (ndif (opN V T x) (2 ^ y)) (2 ^ z) else if p = y then ndif (ndif (opN V T y) (2 ^ x)) (2 ^ z) else if p = z then ndif (ndif (opN V T z) (2 ^ x)) (2 ^ y) else opN V T p := by
  have go : ∀ x y z : Nat, x < V → y < V → z < V → ¬ x = y → ¬ y = z → ¬ x = z → ∀ S : sT, (∀ i, S x i = -1 ↔ (T x i = -1 ∧ ¬ i = y ∧ ¬ i = z)) → opN V S x = ndif (ndif (opN V T x) (2 ^ y)) (2 ^ z) := by
    intro x y z hx hy hz hxy hyz hxz S hS
    apply Nat.eq_of_testBit_eq
    intro i
    rw [nd_test, nd_test, op_test hV, op_test hV, p2_test, p2_test]
    have := hS i
    by_cases e1 : i = y
    · subst e1; simp [this]
    · by_cases e2 : i = z
      · subst e2; simp [this]
      · simp [this, e1, e2]
  have hS : ∀ p i, ¬ sPr x y z p i → sPut T x y z p i = T p i := fun p i h => by unfold sPut; rw [if_neg h]
  have hS2 : ∀ p i, sPr x y z p i → ¬ sPut T x y z p i = -1 := fun p i h => by
    unfold sPut; rw [if_pos h]
    obtain ⟨g1, g2, g3⟩ := h
    omega
  split
  · next e =>
    subst e
    refine go p y z hx hy hz hxy hyz hxz _ (fun i => ?_)
    by_cases h : sPr p y z p i
    · exact ⟨fun g => absurd g (hS2 _ _ h), fun g => absurd g (by omega)⟩
    · rw [hS _ _ h]
      exact ⟨fun g => ⟨g, by omega, by omega⟩, fun g => g.1⟩
  · next e1 =>
    split
    · next e =>
      subst e
      refine go p x z hy hx hz (by omega) hxz hyz _ (fun i => ?_)
      by_cases h : sPr x p z p i
      · exact ⟨fun g => absurd g (hS2 _ _ h), fun g => absurd g (by omega)⟩
      · rw [hS _ _ h]
        exact ⟨fun g => ⟨g, by omega, by omega⟩, fun g => g.1⟩
    · next e2 =>
      split
      · next e =>
        subst e
        refine go p x y hz hx hy (by omega) hxy (by omega) _ (fun i => ?_)
        by_cases h : sPr x y p p i
        · exact ⟨fun g => absurd g (hS2 _ _ h), fun g => absurd g (by omega)⟩
        · rw [hS _ _ h]
          exact ⟨fun g => ⟨g, by omega, by omega⟩, fun g => g.1⟩
      · next e3 =>
        apply Nat.eq_of_testBit_eq
        intro i
        rw [op_test hV, op_test hV, hS _ _ (by omega)]
theorem k_bput {d : Nat} {hp : amH} {R : xQ} {o V x y z : Nat} {T : sT} {s : Int32} (ho : bo o) (hH : bHk 84 bTT hp) (hB : bdOk hp o V T) (hs : s.toInt = ((m3 x y z : Nat) : Int)) (q1 : x < y) (q2 : y < z) (q3 : z < V) (hf : sFree T x y z)
    (hR : ∀ hp1, bHk 84 bTT hp1 → bFx [o + 1, o + 3] hp hp1 → bdOk hp1 o V (sPut T x y z) → R (.inl none) hp1) : xK (d + 2) 14 [.ref o, .int s] hp R := by
  obtain ⟨B1, B2, B3, B4, B5⟩ := id hB
  have hV : V ≤ 15 := B2.2.1
  obtain ⟨M0, M1, M2⟩ := mem3 q1 q2 (by omega)
  have hm := m3_lt (x := x) (y := y) (z := z) (by omega) (by omega) (by omega)
  have ox := B5 x (by omega)
  have oy := B5 y (by omega)
  have oz := B5 z (by omega)
  have lx := op_lt V T x
  have ly := op_lt V T y
  have lz := op_lt V T z
  have mx := nd_lt (n := 2 ^ y) lx
  have my := nd_lt (n := 2 ^ x) ly
  have mz := nd_lt (n := 2 ^ x) lz
  refine xin (M := am_m14) rfl rfl (by unfold xAv; simp [amOk, bo_lt ho, Value.category]) ?_
  refine xild 1 ⟨u14, _, rfl⟩ rfl rfl ?_
  refine xcst 2 (0) ⟨u14, _, rfl⟩ rfl (by decide) (fun z1 h1 => ?_)
  refine xcallS 5 [.int _, .int _] [] hH ⟨u14, _, rfl⟩ rfl rfl rfl rfl rfl (k_mem hH hs hm (i := 0) (by omega) (fun z2 h2 => ⟨_, rfl, ?_⟩))
  refine xist 6 ⟨u14, _, rfl⟩ rfl rfl ?_
  refine xild 7 ⟨u14, _, rfl⟩ rfl rfl ?_
  refine xcst 8 (1) ⟨u14, _, rfl⟩ rfl (by decide) (fun z7 h7 => ?_)
  refine xcallS 11 [.int _, .int _] [] hH ⟨u14, _, rfl⟩ rfl rfl rfl rfl rfl (k_mem hH hs hm (i := 1) (by omega) (fun z8 h8 => ⟨_, rfl, ?_⟩))
  refine xist 12 ⟨u14, _, rfl⟩ rfl rfl ?_
  refine xild 13 ⟨u14, _, rfl⟩ rfl rfl ?_
  refine xcst 14 (2) ⟨u14, _, rfl⟩ rfl (by decide) (fun z13 h13 => ?_)
  refine xcallS 17 [.int _, .int _] [] hH ⟨u14, _, rfl⟩ rfl rfl rfl rfl rfl (k_mem hH hs hm (i := 2) (by omega) (fun z14 h14 => ⟨_, rfl, ?_⟩))
  refine xist2 19 ⟨u14, _, rfl⟩ rfl rfl ?_
  refine xald 20 ⟨u14, _, rfl⟩ rfl rfl ?_
  refine xild 21 ⟨u14, _, rfl⟩ rfl rfl ?_
  refine xild 22 ⟨u14, _, rfl⟩ rfl rfl ?_
  refine xild2 24 ⟨u14, _, rfl⟩ rfl rfl ?_
  refine xcallC 27 (o := o) [.int _, .int _, .int _] [] hH ⟨u14, _, rfl⟩ rfl rfl (bo_lt ho) (bo_T ho) (by decide) rfl ⟨rfl, rfl, rfl, rfl⟩ rfl (k_join ho hH (V := V) B1 (x := x) (y := y) (by omega) (by omega) (by omega) (by omega) (by omega) ox oy lx ly (fun hp24 hH24 F24 E24 A24 B24 C24 => ⟨_, rfl, ?_⟩))
  refine xald 28 ⟨u14, _, rfl⟩ rfl rfl ?_
  refine xild 29 ⟨u14, _, rfl⟩ rfl rfl ?_
  refine xild2 31 ⟨u14, _, rfl⟩ rfl rfl ?_
  refine xild 32 ⟨u14, _, rfl⟩ rfl rfl ?_
  refine xcallC 35 (o := o) [.int _, .int _, .int _] [] hH24 ⟨u14, _, rfl⟩ rfl rfl (bo_lt ho) (bo_T ho) (by decide) rfl ⟨rfl, rfl, rfl, rfl⟩ rfl (k_join ho hH24 (V := V) (by rw [bFx_n F24 (by simp)]; exact B1) (x := x) (y := z) (by omega) (by omega) (by omega) (by omega) (by omega) A24 (by rw [C24 z (by omega) (by omega)]; exact oz) mx lz (fun hp32 hH32 F32 E32 A32 B32 C32 => ⟨_, rfl, ?_⟩))
  refine xald 36 ⟨u14, _, rfl⟩ rfl rfl ?_
  refine xild 37 ⟨u14, _, rfl⟩ rfl rfl ?_
  refine xild2 39 ⟨u14, _, rfl⟩ rfl rfl ?_
  refine xild 40 ⟨u14, _, rfl⟩ rfl rfl ?_
  refine xcallC 43 (o := o) [.int _, .int _, .int _] [] hH32 ⟨u14, _, rfl⟩ rfl rfl (bo_lt ho) (bo_T ho) (by decide) rfl ⟨rfl, rfl, rfl, rfl⟩ rfl (k_join ho hH32 (V := V) (by rw [bFx_n F32 (by simp), bFx_n F24 (by simp)]; exact B1) (x := y) (y := z) (by omega) (by omega) (by omega) (by omega) (by omega) (by rw [C32 y (by omega) (by omega)]; exact B24) B32 my mz (fun hp40 hH40 F40 E40 A40 B40 C40 => ⟨_, rfl, ?_⟩))
  have F := (F24.trans F32).trans F40
  have O := fun p => op_put (p := p) (T := T) hV (show x < V by omega) (show y < V by omega) q3 (by omega) (by omega) (by omega)
  exact xretV ⟨u14, _, rfl⟩ rfl (hR hp40 hH40 F ⟨by rw [bFx_n F (by simp)]; exact B1, sOk_put B2 (by omega) (by omega) q3 (by omega) (by omega) (by omega) hf, fun u v hu hv => by
      rw [E40 u v hu hv, E32 u v hu hv, E24 u v hu hv, B3 u v hu hv]
      unfold sPut
      by_cases e1 : (u = y ∧ v = z) ∨ (u = z ∧ v = y)
      · rw [if_pos e1, if_pos (by omega)]; omega
      · rw [if_neg e1]
        by_cases e2 : (u = x ∧ v = z) ∨ (u = z ∧ v = x)
        · rw [if_pos e2, if_pos (by omega)]; omega
        · rw [if_neg e2]
          by_cases e3 : (u = x ∧ v = y) ∨ (u = y ∧ v = x)
          · rw [if_pos e3, if_pos (by omega)]; omega
          · rw [if_neg e3, if_neg (by omega)], fun u v h => by
      unfold sPut
      rw [if_neg (by omega)]
      exact B4 u v h, fun p hp => by
      rw [O p]
      by_cases e1 : p = x
      · subst e1
        rw [if_pos rfl, C40 p (by omega) (by omega)]; exact A32
      · rw [if_neg e1]
        by_cases e2 : p = y
        · subst e2
          rw [if_pos rfl]; exact A40
        · rw [if_neg e2]
          by_cases e3 : p = z
          · subst e3
            rw [if_pos rfl]; exact B40
          · rw [if_neg e3, C40 p e2 e3, C32 p e1 e3, C24 p e1 e2]; exact B5 p hp⟩)
