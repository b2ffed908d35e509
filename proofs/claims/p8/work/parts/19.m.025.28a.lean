/-! ===== triples in their order (pure) ===== -/
/-- the pair n = 15 x + y begins a triple -/
def trB (T : sT) (n : Nat) : Bool := decide (n / 15 < n % 15 ∧ ((n % 15 : Nat) : Int) < T (n / 15) (n % 15))
/-- the triples of which the first pair stands before n -/
def trL (T : sT) : Nat → List Nat
  | 0 => []
  | n + 1 => if trB T n = true then trL T n ++ [n] else trL T n
theorem trL_mem {T : sT} {k : Nat} : ∀ n, k ∈ trL T n ↔ (k < n ∧ trB T k = true)
  | 0 => by simp [trL]
  | n + 1 => by
    have ih := trL_mem (T := T) (k := k) n
    unfold trL
    split
    · next h =>
      rw [List.mem_append, ih, List.mem_singleton]
      constructor
      · rintro (g | rfl)
        · exact ⟨by omega, g.2⟩
        · exact ⟨by omega, h⟩
      · intro g
        by_cases e : k = n
        · exact Or.inr e
        · exact Or.inl ⟨by omega, g.2⟩
    · next h =>
      rw [ih]
      constructor
      · exact fun g => ⟨by omega, g.2⟩
      · intro g
        have : ¬ k = n := fun e => h (by rw [← e]; exact g.2)
        exact ⟨by omega, g.2⟩
theorem trL_no {T : sT} {n n1 : Nat} (h : n ≤ n1) (hn : ∀ k, n ≤ k → k < n1 → trB T k = false) : trL T n1 = trL T n := by
  induction n1 with
  | zero => rw [show n = 0 by omega]
  | succ m ih =>
    by_cases e : n = m + 1
    · rw [e]
    · rw [show trL T (m + 1) = trL T m by show (if trB T m = true then trL T m ++ [m] else trL T m) = trL T m; rw [if_neg (by rw [hn m (by omega) (by omega)]; decide)]]
      exact ih (by omega) (fun k k1 k2 => hn k k1 (by omega))
theorem trL_add {T : sT} {n : Nat} (h : trB T n = true) : trL T (n + 1) = trL T n ++ [n] := by
  rw [show trL T (n + 1) = if trB T n = true then trL T n ++ [n] else trL T n from rfl, if_pos h]
/-- a triple's points, by its first pair -/
theorem tr_pts {V : Nat} {T : sT} (hT : sOk V T) {n : Nat} (h : trB T n = true) : ∃ z : Nat, T (n / 15) (n % 15) = (z : Int) ∧ n / 15 < n % 15 ∧ n % 15 < z ∧ z < V := by
  have h := of_decide_eq_true h
  obtain ⟨z, hz, g⟩ := sOk_at hT (rfl : T (n / 15) (n % 15) = _) (by omega)
  exact ⟨z, hz, h.1, by omega, by omega⟩
def rTT (V : Nat) (T : sT) : Nat → Int := fun i => if i < 4 then (V : Int) else T ((i - 4) / 15) ((i - 4) % 15)
theorem rTT_at {V : Nat} {T : sT} {a b : Nat} (hb : b < 15) : rTT V T (4 + 15 * a + b) = T a b := by
  unfold rTT
  rw [if_neg (by omega), show (4 + 15 * a + b - 4) / 15 = a by omega, show (4 + 15 * a + b - 4) % 15 = b by omega]
theorem rTT_V {V : Nat} {T : sT} (h : sOk V T) : Vf (rTT V T) := by
  have h0 : rTT V T 0 = (V : Int) := rfl
  refine ⟨by have := h.1; omega, by have := h.2.1; omega, fun a b ha hb => ?_⟩
  rw [rTT_at hb]
  rcases h.2.2 a b with g | ⟨c, g1, g2, g3, g4, g5, g6, g7, g8, g9⟩
  · exact Or.inl g
  · have := h.2.1
    exact Or.inr ⟨c, g1, by omega, by omega, by omega, g5, g6, g7, by rw [rTT_at (by omega)]; exact g8, by rw [rTT_at (by omega)]; exact g9⟩
theorem trL_gL {V : Nat} {T : sT} (hT : sOk V T) : ∀ n, ∃ L, gL (rTT V T) n L ∧ L.length = 3 * (trL T n).length
  | 0 => ⟨[], gL_nil _ _, rfl⟩
  | n + 1 => by
    obtain ⟨L, g, hl⟩ := trL_gL hT n
    unfold trL
    split
    · next h =>
      obtain ⟨z, z1, z2, z3, z4⟩ := tr_pts hT h
      have hV := hT.2.1
      have e : 15 * (n / 15) + n % 15 = n := by omega
      have := gL_add (rTT_V hT) g (a := n / 15) (b := n % 15) (c := z) z2 z3 (by omega) (by rw [rTT_at (by omega)]; exact z1) (by omega)
      rw [e] at this
      exact ⟨_, this, by rw [List.length_append, List.length_cons, List.length_cons, List.length_cons, hl, List.length_singleton]; omega⟩
    · exact ⟨L, gL_mono g (by omega), hl⟩
theorem trL_35 {V : Nat} {T : sT} (hT : sOk V T) (n : Nat) : (trL T n).length ≤ 35 := by
  obtain ⟨L, g, hl⟩ := trL_gL hT n
  have := gL_len g
  omega
/-- the set of a triple's points, by its first pair -/
def mk3 (T : sT) (n : Nat) : Nat := m3 (n / 15) (n % 15) (T (n / 15) (n % 15)).toNat
/-- the triples listed up to the pair n: how many, their sets, their pairs' numbers -/
def lsN (hp : amH) (o : Nat) (T : sT) (n : Nat) : Prop := rN hp o 1 = (((trL T n).length : Nat) : Int) ∧ (∀ t, t < (trL T n).length → rN hp (o + 4) t = ((mk3 T ((trL T n).getD t 0) : Nat) : Int)) ∧
  ∀ t u v, t < (trL T n).length → u < 15 → v < 15 → sPr ((trL T n).getD t 0 / 15) ((trL T n).getD t 0 % 15) (T ((trL T n).getD t 0 / 15) ((trL T n).getD t 0 % 15)).toNat u v → rN hp (o + 2) (15 * u + v) = (t : Int)
theorem lsN_fr {hp hp1 : amH} {o n : Nat} {T : sT} (h : lsN hp o T n) (h1 : rN hp1 o 1 = rN hp o 1) (h4 : ∀ i, rN hp1 (o + 4) i = rN hp (o + 4) i) (h2 : ∀ i, rN hp1 (o + 2) i = rN hp (o + 2) i) : lsN hp1 o T n :=
  ⟨by rw [h1]; exact h.1, fun t ht => by rw [h4]; exact h.2.1 t ht, fun t u v ht hu hv hp => by rw [h2]; exact h.2.2 t u v ht hu hv hp⟩
/-- a pair stands in one triple -/
theorem sPr_T {V : Nat} {T : sT} (hT : sOk V T) {x y z u v : Nat} (e : T x y = (z : Int)) (h : sPr x y z u v) : T u v = (x : Int) + y + z - u - v := by
  obtain ⟨k, hk, x1, y1, z1, n1, n2, n3, t1, t2, t3, t4, t5⟩ := sOk_at hT e (by omega)
  have hk : z = k := by omega
  subst hk
  obtain ⟨g1, g2, g3⟩ := h
  rcases g2 with rfl | rfl | rfl <;> rcases g3 with rfl | rfl | rfl <;> first | exact absurd rfl g1 | omega
theorem pr_one {V : Nat} {T : sT} (hT : sOk V T) {x y z a b c u v : Nat} (h1 : x < y) (h2 : y < z) (h3 : a < b) (h4 : b < c) (e : T x y = (z : Int)) (e2 : T a b = (c : Int)) (p : sPr x y z u v) (q : sPr a b c u v) : x = a ∧ y = b ∧ z = c := by
  have g1 := sPr_T hT e p
  have g2 := sPr_T hT e2 q
  obtain ⟨p1, p2, p3⟩ := p
  obtain ⟨q1, q2, q3⟩ := q
  omega
/-! ===== the class lists its triples ===== -/
theorem k_np {d : Nat} {hp : amH} {R : xQ} {o V x y : Nat} {a b : Int32} (ho : bo o) (hH : bHk 84 bTT hp) (hV : rN hp o 0 = (V : Int)) (ha : a.toInt = (x : Int)) (hb : b.toInt = (y : Int)) (hx : x < V) (hy : y < V)
    (hR : ∀ hp1, bHk 84 bTT hp1 → bFx [o + 2] hp hp1 → (∀ u v, u < 15 → v < 15 → rN hp1 (o + 2) (15 * u + v) = if (u = x ∧ v = y) ∨ (u = y ∧ v = x) then rN hp o 1 else rN hp (o + 2) (15 * u + v)) → R (.inl none) hp1) : xK (d + 1) 20 [.ref o, .int a, .int b] hp R := by
  have q := b_pts hH ho
  refine xin (M := am_m20) rfl rfl (by unfold xAv; simp [amOk, bo_lt ho, Value.category]) ?_
  refine xald 1 ⟨u20, _, rfl⟩ rfl rfl ?_
  refine xild 2 ⟨u20, _, rfl⟩ rfl rfl ?_
  refine xcallC 5 (o := o) [.int _] [] hH ⟨u20, _, rfl⟩ rfl rfl (bo_lt ho) (bo_T ho) (by decide) rfl ⟨rfl, rfl, rfl, rfl⟩ rfl (k_isp ho hH (fun z2 h2 => ⟨_, rfl, ?_⟩))
  refine xif_eq 8 ⟨u20, _, rfl⟩ rfl (fun c5 => ?_) (fun c5 => ?_)
  · omega
  · refine xald 9 ⟨u20, _, rfl⟩ rfl rfl ?_
    refine xild 10 ⟨u20, _, rfl⟩ rfl rfl ?_
    refine xcallC 13 (o := o) [.int _] [] hH ⟨u20, _, rfl⟩ rfl rfl (bo_lt ho) (bo_T ho) (by decide) rfl ⟨rfl, rfl, rfl, rfl⟩ rfl (k_isp ho hH (fun z10 h10 => ⟨_, rfl, ?_⟩))
    refine xif_eq 16 ⟨u20, _, rfl⟩ rfl (fun c13 => ?_) (fun c13 => ?_)
    · omega
    · refine xald 17 ⟨u20, _, rfl⟩ rfl rfl ?_
      refine xgetD 20 (o + 2) hH ⟨u20, _, rfl⟩ rfl (bo_lt ho) (by decide) (bo_T ho) rfl (by decide) ?_
      refine xild 21 ⟨u20, _, rfl⟩ rfl rfl ?_
      refine xbip 23 (15) ⟨u20, _, rfl⟩ rfl (by decide) (fun z21 h21 => ?_)
      refine xmul 24 (Int32.toInt a * 15) ⟨u20, _, rfl⟩ rfl (by rw [h21]) (by omega) (by omega) (fun z23 h23 => ?_)
      refine xild 25 ⟨u20, _, rfl⟩ rfl rfl ?_
      refine xadd 26 _ ⟨u20, _, rfl⟩ rfl rfl (by omega) (by omega) (fun z25 h25 => ?_)
      refine xald 27 ⟨u20, _, rfl⟩ rfl rfl ?_
      refine xgetC 30 hH ⟨u20, _, rfl⟩ rfl (bo_lt ho) (by decide) (bo_T ho) rfl (by decide) (fun z27 h27 => ?_)
      have bm := aMin z27
      have bx := aMax z27
      refine xiast 31 (z25).toInt.toNat hH ⟨u20, _, rfl⟩ rfl (bo_lt2 ho) (bo_T2 ho) (by omega) (by omega) (by omega) (by omega) (fun hp30 hH30 U30 => ?_)
      have s30 := U30.1
      have n30_o_0 : rN hp30 (o) 0 = rN hp (o) 0 := rU_ne U30 (by omega)
      have n30_o_1 : rN hp30 (o) 1 = rN hp (o) 1 := rU_ne U30 (by omega)
      refine xald 32 ⟨u20, _, rfl⟩ rfl rfl ?_
      refine xgetD 35 (o + 2) hH30 ⟨u20, _, rfl⟩ rfl (bo_lt ho) (by decide) (bo_T ho) rfl (by decide) ?_
      refine xild 36 ⟨u20, _, rfl⟩ rfl rfl ?_
      refine xbip 38 (15) ⟨u20, _, rfl⟩ rfl (by decide) (fun z36 h36 => ?_)
      refine xmul 39 (Int32.toInt b * 15) ⟨u20, _, rfl⟩ rfl (by rw [h36]) (by omega) (by omega) (fun z38 h38 => ?_)
      refine xild 40 ⟨u20, _, rfl⟩ rfl rfl ?_
      refine xadd 41 _ ⟨u20, _, rfl⟩ rfl rfl (by omega) (by omega) (fun z40 h40 => ?_)
      refine xald 42 ⟨u20, _, rfl⟩ rfl rfl ?_
      refine xgetC 45 hH30 ⟨u20, _, rfl⟩ rfl (bo_lt ho) (by decide) (bo_T ho) rfl (by decide) (fun z42 h42 => ?_)
      have bm2 := aMin z42
      have bx2 := aMax z42
      refine xiast 46 (z40).toInt.toNat hH30 ⟨u20, _, rfl⟩ rfl (bo_lt2 ho) (bo_T2 ho) (by omega) (by omega) (by omega) (by omega) (fun hp45 hH45 U45 => ?_)
      have s45 := U45.1
      have n45_o_0 : rN hp45 (o) 0 = rN hp30 (o) 0 := rU_ne U45 (by omega)
      have n45_o_1 : rN hp45 (o) 1 = rN hp30 (o) 1 := rU_ne U45 (by omega)
      exact xretV ⟨u20, _, rfl⟩ rfl (hR hp45 hH45 ((bFx_U U30 (by simp)).trans (bFx_U U45 (by simp))) (fun u v hu hv => by
          by_cases e2 : u = y ∧ v = x
          · obtain ⟨rfl, rfl⟩ := e2
            rw [if_pos (by omega), show 15 * u + v = z40.toInt.toNat by omega, U45.1, h42]
            exact rU_ne U30 (by omega)
          · rw [rU_ne U45 (by omega)]
            by_cases e1 : u = x ∧ v = y
            · obtain ⟨rfl, rfl⟩ := e1
              rw [if_pos (by omega), show 15 * u + v = z25.toInt.toNat by omega, U30.1]
              exact h27
            · rw [if_neg (by omega), rU_ne U30 (by omega)]))
theorem k_nmb {d : Nat} {hp : amH} {R : xQ} {o V x y z n : Nat} {T : sT} {a b c : Int32} (ho : bo o) (hH : bHk 84 bTT hp) (hB : bdOk hp o V T) (hn : n = 15 * x + y) (hL : lsN hp o T n) (ha : a.toInt = (x : Int)) (hb : b.toInt = (y : Int)) (hc : c.toInt = (z : Int)) (hxy : x < y) (hyz : y < z) (hz : z < V) (e : T x y = (z : Int))
    (hR : ∀ hp1, bHk 84 bTT hp1 → bFx [o, o + 2, o + 4] hp hp1 → rN hp1 o 0 = rN hp o 0 → lsN hp1 o T (n + 1) → R (.inl none) hp1) : xK (d + 2) 19 [.ref o, .int a, .int b, .int c] hp R := by
  have q := b_pts hH ho
  have hV := hB.2.1.2.1
  have bV := hB.1
  have tb : trB T n = true := decide_eq_true (by rw [show n / 15 = x by omega, show n % 15 = y by omega]; omega)
  have eL := trL_add tb
  have l35 := trL_35 hB.2.1 (n + 1)
  rw [eL, List.length_append, List.length_singleton] at l35
  obtain ⟨L1, L2, L3⟩ := id hL
  have hm := m3_lt (x := x) (y := y) (z := z) (by omega) (by omega) (by omega)
  refine xin (M := am_m19) rfl rfl (by unfold xAv; simp [amOk, bo_lt ho, Value.category]) ?_
  refine xald 1 ⟨u19, _, rfl⟩ rfl rfl ?_
  refine xgetC 4 hH ⟨u19, _, rfl⟩ rfl (bo_lt ho) (by decide) (bo_T ho) rfl (by decide) (fun z1 h1 => ?_)
  refine xald 5 ⟨u19, _, rfl⟩ rfl rfl ?_
  refine xgetD 8 (o + 4) hH ⟨u19, _, rfl⟩ rfl (bo_lt ho) (by decide) (bo_T ho) rfl (by decide) ?_
  refine xlen 9 hH ⟨u19, _, rfl⟩ rfl (bo_lt4 ho) (bo_T4 ho) (by decide) (by decide) (fun z8 h8 => ?_)
  refine xcmp_ge 12 ⟨u19, _, rfl⟩ rfl (fun c9 => ?_) (fun c9 => ?_)
  · omega
  · refine xald 13 ⟨u19, _, rfl⟩ rfl rfl ?_
    refine xgetD 16 (o + 4) hH ⟨u19, _, rfl⟩ rfl (bo_lt ho) (by decide) (bo_T ho) rfl (by decide) ?_
    refine xald 17 ⟨u19, _, rfl⟩ rfl rfl ?_
    refine xgetC 20 hH ⟨u19, _, rfl⟩ rfl (bo_lt ho) (by decide) (bo_T ho) rfl (by decide) (fun z17 h17 => ?_)
    refine xild 21 ⟨u19, _, rfl⟩ rfl rfl ?_
    refine xild 22 ⟨u19, _, rfl⟩ rfl rfl ?_
    refine xild 23 ⟨u19, _, rfl⟩ rfl rfl ?_
    refine xcallS 26 [.int _, .int _, .int _] [.int _, .ref (o + 4)] hH ⟨u19, _, rfl⟩ rfl rfl rfl (by simp [amOkS, amOk, bo_lt ho, bo_lt1 ho, bo_lt2 ho, bo_lt3 ho, bo_lt4 ho]) rfl (k_three (x := x) (y := y) (z := z) (by omega) (by omega) (by omega) (by omega) (by omega) (by omega) (fun z23 h23 => ⟨_, rfl, ?_⟩))
    have m23 : z23.toInt = ((m3 x y z : Nat) : Int) := h23
    refine xiast 27 (z17).toInt.toNat hH ⟨u19, _, rfl⟩ rfl (bo_lt4 ho) (bo_T4 ho) (by omega) (by omega) (by omega) (by omega) (fun hp26 hH26 U26 => ?_)
    have s26 := U26.1
    refine xald 28 ⟨u19, _, rfl⟩ rfl rfl ?_
    refine xild 29 ⟨u19, _, rfl⟩ rfl rfl ?_
    refine xild 30 ⟨u19, _, rfl⟩ rfl rfl ?_
    refine xcallC 33 (o := o) [.int _, .int _] [] hH26 ⟨u19, _, rfl⟩ rfl rfl (bo_lt ho) (bo_T ho) (by decide) rfl ⟨rfl, rfl, rfl, rfl⟩ rfl (k_np ho hH26 (V := V) (by rw [rU_ne U26 (by omega)]; exact bV) (x := x) (y := y) (by omega) (by omega) (by omega) (by omega) (fun hp30 hH30 F30 E30 => ⟨_, rfl, ?_⟩))
    refine xald 34 ⟨u19, _, rfl⟩ rfl rfl ?_
    refine xild 35 ⟨u19, _, rfl⟩ rfl rfl ?_
    refine xild 36 ⟨u19, _, rfl⟩ rfl rfl ?_
    refine xcallC 39 (o := o) [.int _, .int _] [] hH30 ⟨u19, _, rfl⟩ rfl rfl (bo_lt ho) (bo_T ho) (by decide) rfl ⟨rfl, rfl, rfl, rfl⟩ rfl (k_np ho hH30 (V := V) (by rw [bFx_n F30 (by simp), rU_ne U26 (by omega)]; exact bV) (x := x) (y := z) (by omega) (by omega) (by omega) (by omega) (fun hp36 hH36 F36 E36 => ⟨_, rfl, ?_⟩))
    refine xald 40 ⟨u19, _, rfl⟩ rfl rfl ?_
    refine xild 41 ⟨u19, _, rfl⟩ rfl rfl ?_
    refine xild 42 ⟨u19, _, rfl⟩ rfl rfl ?_
    refine xcallC 45 (o := o) [.int _, .int _] [] hH36 ⟨u19, _, rfl⟩ rfl rfl (bo_lt ho) (bo_T ho) (by decide) rfl ⟨rfl, rfl, rfl, rfl⟩ rfl (k_np ho hH36 (V := V) (by rw [bFx_n F36 (by simp), bFx_n F30 (by simp), rU_ne U26 (by omega)]; exact bV) (x := y) (y := z) (by omega) (by omega) (by omega) (by omega) (fun hp42 hH42 F42 E42 => ⟨_, rfl, ?_⟩))
    have s42 : rN hp42 o 1 = rN hp o 1 := by rw [bFx_n F42 (by simp), bFx_n F36 (by simp), bFx_n F30 (by simp), rU_ne U26 (by omega)]
    have z42 : rN hp42 o 0 = rN hp o 0 := by rw [bFx_n F42 (by simp), bFx_n F36 (by simp), bFx_n F30 (by simp), rU_ne U26 (by omega)]
    refine xald 46 ⟨u19, _, rfl⟩ rfl rfl ?_
    refine xdup 47 ⟨u19, _, rfl⟩ rfl rfl ?_
    refine xgetC 50 hH42 ⟨u19, _, rfl⟩ rfl (bo_lt ho) (by decide) (bo_T ho) rfl (by decide) (fun z47 h47 => ?_)
    refine xcst 51 (1) ⟨u19, _, rfl⟩ rfl (by decide) (fun z50 h50 => ?_)
    refine xadd 52 _ ⟨u19, _, rfl⟩ rfl rfl (by omega) (by omega) (fun z51 h51 => ?_)
    refine xputC 55 hH42 ⟨u19, _, rfl⟩ rfl (bo_lt ho) (by decide) (bo_T ho) rfl (by decide) ⟨rfl, rfl⟩ (by omega) (by omega) (fun hp52 hH52 U52 => ?_)
    have s52 := U52.1
    have s1 := U52.1
    have one : ∀ u v, u < 15 → v < 15 → rN hp52 (o + 2) (15 * u + v) = if sPr x y z u v then (((trL T n).length : Nat) : Int) else rN hp (o + 2) (15 * u + v) := fun u v hu hv => by
      rw [rU_ne U52 (by omega), E42 u v hu hv, E36 u v hu hv, E30 u v hu hv, bFx_n F36 (by simp), bFx_n F30 (by simp), rU_ne U26 (by omega), rU_ne U26 (by omega), L1]
      by_cases g1 : (u = y ∧ v = z) ∨ (u = z ∧ v = y)
      · rw [if_pos g1, if_pos (by omega)]
      · rw [if_neg g1]
        by_cases g2 : (u = x ∧ v = z) ∨ (u = z ∧ v = x)
        · rw [if_pos g2, if_pos (by omega)]
        · rw [if_neg g2]
          by_cases g3 : (u = x ∧ v = y) ∨ (u = y ∧ v = x)
          · rw [if_pos g3, if_pos (by omega)]
          · rw [if_neg g3, if_neg (by omega)]
    have gl : ∀ t, t < (trL T n).length → (trL T n ++ [n]).getD t 0 = (trL T n).getD t 0 := fun t ht => by
      rw [List.getD_eq_getElem?_getD, List.getD_eq_getElem?_getD, List.getElem?_append_left ht]
    have gn : (trL T n ++ [n]).getD (trL T n).length 0 = n := by
      rw [List.getD_eq_getElem?_getD, List.getElem?_append_right (Nat.le_refl _), Nat.sub_self]; rfl
    refine xretV ⟨u19, _, rfl⟩ rfl (hR hp52 hH52 (((((bFx_U U26 (by simp)).trans (F30.mono (by simp))).trans (F36.mono (by simp))).trans (F42.mono (by simp))).trans (bFx_U U52 (by simp))) (by rw [rU_ne U52 (by omega)]; exact z42) ⟨?_, ?_, ?_⟩)
    · rw [eL, List.length_append, List.length_singleton, s1]
      omega
    · intro t ht
      rw [eL, List.length_append, List.length_singleton] at ht
      rw [eL, rU_ne U52 (by omega), bFx_n F42 (by simp), bFx_n F36 (by simp), bFx_n F30 (by simp)]
      by_cases g : t = (trL T n).length
      · rw [g, gn, show (trL T n).length = z17.toInt.toNat by omega, U26.1, h23]
        unfold mk3
        rw [show n / 15 = x by omega, show n % 15 = y by omega, e, Int.toNat_natCast]
      · rw [gl t (by omega), rU_ne U26 (by omega)]
        exact L2 t (by omega)
    · intro t u v ht hu hv hp
      rw [eL, List.length_append, List.length_singleton] at ht
      rw [eL] at hp
      rw [one u v hu hv]
      by_cases g : t = (trL T n).length
      · rw [g, gn, show n / 15 = x by omega, show n % 15 = y by omega, e, Int.toNat_natCast] at hp
        rw [if_pos hp, g]
      · rw [gl t (by omega)] at hp
        have hmem : (trL T n).getD t 0 ∈ trL T n := by
          rw [List.getD_eq_getElem?_getD, List.getElem?_eq_getElem (by omega)]
          exact List.getElem_mem _
        obtain ⟨k1, k2⟩ := (trL_mem n).mp hmem
        obtain ⟨c9, c1, c2, c3, c4⟩ := tr_pts hB.2.1 k2
        rw [c1, Int.toNat_natCast] at hp
        have hno : ¬ sPr x y z u v := fun hq => by
          have := pr_one hB.2.1 hxy hyz c2 c3 e c1 hq hp
          omega
        rw [if_neg hno]
        exact L3 t u v (by omega) hu hv (by rw [c1, Int.toNat_natCast]; exact hp)
