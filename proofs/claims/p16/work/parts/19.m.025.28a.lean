/-! ##### 19.m.025.28a ##### -/
section
/-! ===== triples in their order (pure) ===== -/
/-- the pair n = 15 x + y begins a triple -/
def trB (T : sT) (n : Nat) : Bool := decide (n / 15 < n % 15 ∧ ((n % 15 : Nat) : Int) < T (n / 15) (n % 15))
/-- the triples of which the first pair stands before n -/
def trL (T : sT) : Nat → List Nat
  | 0 => []
  | n + 1 => if trB T n = true then trL T n ++ [n] else trL T n
theorem trL_mem {T : sT} {k : Nat} : ∀ n, k ∈ trL T n ↔ (k < n ∧ trB T k = true)
  | 0 => by simp [trL]
  | n + 1 => by
    have ih := trL_mem (T := T) (k := k) n
    unfold trL
    split
    · next h =>
      rw [List.mem_append, ih, List.mem_singleton]
      constructor
      · rintro (g | rfl)
        · exact ⟨by omega, g.2⟩
        · exact ⟨by omega, h⟩
      · intro g
        by_cases e : k = n
        · exact Or.inr e
        · exact Or.inl ⟨by omega, g.2⟩
    · next h =>
      rw [ih]
      constructor
      · exact fun g => ⟨by omega, g.2⟩
      · intro g
        have : ¬ k = n := fun e => h (by rw [← e]; exact g.2)
        exact ⟨by omega, g.2⟩
theorem trL_no {T : sT} {n n1 : Nat} (h : n ≤ n1) (hn : ∀ k, n ≤ k → k < n1 → trB T k = false) : trL T n1 = trL T n := by
  induction n1 with
  | zero => rw [show n = 0 by omega]
  | succ m ih =>
    by_cases e : n = m + 1
    · rw [e]
    · rw [show trL T (m + 1) = trL T m by show (if trB T m = true then trL T m ++ [m] else trL T m) = trL T m; rw [if_neg (by rw [hn m (by omega) (by omega)]; decide)]]
      exact ih (by omega) (fun k k1 k2 => hn k k1 (by omega))
theorem trL_add {T : sT} {n : Nat} (h : trB T n = true) : trL T (n + 1) = trL T n ++ [n] := by
  rw [show trL T (n + 1) = if trB T n = true then trL T n ++ [n] else trL T n from rfl, if_pos h]
/-- a triple's points, by its first pair -/
theorem tr_pts {V : Nat} {T : sT} (hT : sOk V T) {n : Nat} (h : trB T n = true) : ∃ z : Nat, T (n / 15) (n % 15) = (z : Int) ∧ n / 15 < n % 15 ∧ n % 15 < z ∧ z < V := by
  have h := of_decide_eq_true h
  obtain ⟨z, hz, g⟩ := sOk_at hT (rfl : T (n / 15) (n % 15) = _) (by omega)
  exact ⟨z, hz, h.1, by omega, by omega⟩
def rTT (V : Nat) (T : sT) : Nat → Int := fun i => if i < 4 then (V : Int) else T ((i - 4) / 15) ((i - 4) % 15)
theorem rTT_at {V : Nat} {T : sT} {a b : Nat} (hb : b < 15) : rTT V T (4 + 15 * a + b) = T a b := by
  unfold rTT
  rw [if_neg (by omega), show (4 + 15 * a + b - 4) / 15 = a by omega, show (4 + 15 * a + b - 4) % 15 = b by omega]
theorem rTT_V {V : Nat} {T : sT} (h : sOk V T) : Vf (rTT V T) := by
  have h0 : rTT V T 0 = (V : Int) := rfl
  refine ⟨by have := h.1; omega, by have := h.2.1; omega, fun a b ha hb => ?_⟩
  rw [rTT_at hb]
  rcases h.2.2 a b with g | ⟨c, g1, g2, g3, g4, g5, g6, g7, g8, g9⟩
  · exact Or.inl g
  · have := h.2.1
    exact Or.inr ⟨c, g1, by omega, by omega, by omega, g5, g6, g7, by rw [rTT_at (by omega)]; exact g8, by rw [rTT_at (by omega)]; exact g9⟩
theorem trL_gL {V : Nat} {T : sT} (hT : sOk V T) : ∀ n, ∃ L, gL (rTT V T) n L ∧ L.length = 3 * (trL T n).length
  | 0 => ⟨[], gL_nil _ _, rfl⟩
  | n + 1 => by
    obtain ⟨L, g, hl⟩ := trL_gL hT n
    unfold trL
    split
    · next h =>
      obtain ⟨z, z1, z2, z3, z4⟩ := tr_pts hT h
      have hV := hT.2.1
      have e : 15 * (n / 15) + n % 15 = n := by omega
      have := gL_add (rTT_V hT) g (a := n / 15) (b := n % 15) (c := z) z2 z3 (by omega) (by rw [rTT_at (by omega)]; exact z1) (by omega)
      rw [e] at this
      exact ⟨_, this, by rw [List.length_append, List.length_cons, List.length_cons, List.length_cons, hl, List.length_singleton]; omega⟩
    · exact ⟨L, gL_mono g (by omega), hl⟩
theorem trL_35 {V : Nat} {T : sT} (hT : sOk V T) (n : Nat) : (trL T n).length ≤ 35 := by
  obtain ⟨L, g, hl⟩ := trL_gL hT n
  have := gL_len g
  omega
/-- the set of a triple's points, by its first pair -/
def mk3 (T : sT) (n : Nat) : Nat := m3 (n / 15) (n % 15) (T (n / 15) (n % 15)).toNat
/-- the triples listed up to the pair n: how many, their sets, their pairs' numbers -/
def lsN (hp : amH) (o : Nat) (T : sT) (n : Nat) : Prop := rN hp o 1 = (((trL T n).length : Nat) : Int) ∧ (∀ t, t < (trL T n).length → rN hp (o + 4) t = ((mk3 T ((trL T n).getD t 0) : Nat) : Int)) ∧
  ∀ t u v, t < (trL T n).length → u < 15 → v < 15 → sPr ((trL T n).getD t 0 / 15) ((trL T n).getD t 0 % 15) (T ((trL T n).getD t 0 / 15) ((trL T n).getD t 0 % 15)).toNat u v → rN hp (o + 2) (15 * u + v) = (t : Int)
theorem lsN_fr {hp hp1 : amH} {o n : Nat} {T : sT} (h : lsN hp o T n) (h1 : rN hp1 o 1 = rN hp o 1) (h4 : ∀ i, rN hp1 (o + 4) i = rN hp (o + 4) i) (h2 : ∀ i, rN hp1 (o + 2) i = rN hp (o + 2) i) : lsN hp1 o T n :=
  ⟨by rw [h1]; exact h.1, fun t ht => by rw [h4]; exact h.2.1 t ht, fun t u v ht hu hv hp => by rw [h2]; exact h.2.2 t u v ht hu hv hp⟩
/-- a pair stands in one triple -/
theorem sPr_T {V : Nat} {T : sT} (hT : sOk V T) {x y z u v : Nat} (e : T x y = (z : Int)) (h : sPr x y z u v) : T u v = (x : Int) + y + z - u - v := by
  obtain ⟨k, hk, x1, y1, z1, n1, n2, n3, t1, t2, t3, t4, t5⟩ := sOk_at hT e (by omega)
  have hk : z = k := by omega
  subst hk
  obtain ⟨g1, g2, g3⟩ := h
  rcases g2 with rfl | rfl | rfl <;> rcases g3 with rfl | rfl | rfl <;> first | exact absurd rfl g1 | omega
theorem pr_one {V : Nat} {T : sT} (hT : sOk V T) {x y z a b c u v : Nat} (h1 : x < y) (h2 : y < z) (h3 : a < b) (h4 : b < c) (e : T x y = (z : Int)) (e2 : T a b = (c : Int)) (p : sPr x y z u v) (q : sPr a b c u v) : x = a ∧ y = b ∧ z = c := by
  have g1 := sPr_T hT e p
  have g2 := sPr_T hT e2 q
  obtain ⟨p1, p2, p3⟩ := p
  obtain ⟨q1, q2, q3⟩ := q
  omega
/-! ===== the class lists its triples ===== -/
theorem k_np {d : Nat} {hp : amH} {R : xQ} {o V x y : Nat} {a b : Int32} (ho : bo o) (hH : bHk 84 bTT hp) (hV : rN hp o 0 = (V : Int)) (ha : a.toInt = (x : Int)) (hb : b.toInt = (y : Int)) (hx : x < V) (hy : y < V)
    (hR : ∀ hp1, bHk 84 bTT hp1 → bFx [o + 2] hp hp1 → (∀ u v, u < 15 → v < 15 → rN hp1 (o + 2) (15 * u + v) = if (u = x ∧ v = y) ∨ (u = y ∧ v = x) then rN hp o 1 else rN hp (o + 2) (15 * u + v)) → R (.inl none) hp1) : xK (d + 1) 20 [.ref o, .int a, .int b] hp R := by
  have q := b_pts hH ho
  refine xin (M := am_m20) rfl rfl (by unfold xAv; simp [amOk, bo_lt ho, Value.category]) ?_
  refine xald 1 ⟨u20, _, rfl⟩ rfl rfl ?_
  refine xild 2 ⟨u20, _, rfl⟩ rfl rfl ?_
  refine xcallC 5 (o := o) [.int _] [] hH ⟨u20, _, rfl⟩ rfl rfl (bo_lt ho) (bo_T ho) (by decide) rfl ⟨rfl, rfl, rfl, rfl⟩ rfl (k_isp ho hH (fun z2 h2 => ⟨_, rfl, ?_⟩))
  refine xif_eq 8 ⟨u20, _, rfl⟩ rfl (fun c5 => ?_) (fun c5 => ?_)
  · omega
  · refine xald 9 ⟨u20, _, rfl⟩ rfl rfl ?_
    refine xild 10 ⟨u20, _, rfl⟩ rfl rfl ?_
    refine xcallC 13 (o := o) [.int _] [] hH ⟨u20, _, rfl⟩ rfl rfl (bo_lt ho) (bo_T ho) (by decide) rfl ⟨rfl, rfl, rfl, rfl⟩ rfl (k_isp ho hH (fun z10 h10 => ⟨_, rfl, ?_⟩))
    refine xif_eq 16 ⟨u20, _, rfl⟩ rfl (fun c13 => ?_) (fun c13 => ?_)
    · omega
    · refine xald 17 ⟨u20, _, rfl⟩ rfl rfl ?_
      refine xgetD 20 (o + 2) hH ⟨u20, _, rfl⟩ rfl (bo_lt ho) (by decide) (bo_T ho) rfl (by decide) ?_
      refine xild 21 ⟨u20, _, rfl⟩ rfl rfl ?_
      refine xbip 23 (15) ⟨u20, _, rfl⟩ rfl (by decide) (fun z21 h21 => ?_)
      refine xmul 24 (Int32.toInt a * 15) ⟨u20, _, rfl⟩ rfl (by rw [h21]) (by omega) (by omega) (fun z23 h23 => ?_)
      refine xild 25 ⟨u20, _, rfl⟩ rfl rfl ?_
      refine xadd 26 _ ⟨u20, _, rfl⟩ rfl rfl (by omega) (by omega) (fun z25 h25 => ?_)
      refine xald 27 ⟨u20, _, rfl⟩ rfl rfl ?_
      refine xgetC 30 hH ⟨u20, _, rfl⟩ rfl (bo_lt ho) (by decide) (bo_T ho) rfl (by decide) (fun z27 h27 => ?_)
      have bm := aMin z27
      have bx := aMax z27
      refine xiast 31 (z25).toInt.toNat hH ⟨u20, _, rfl⟩ rfl (bo_lt2 ho) (bo_T2 ho) (by omega) (by omega) (by omega) (by omega) (fun hp30 hH30 U30 => ?_)
      have s30 := U30.1
      have n30_o_0 : rN hp30 (o) 0 = rN hp (o) 0 := rU_ne U30 (by omega)
      have n30_o_1 : rN hp30 (o) 1 = rN hp (o) 1 := rU_ne U30 (by omega)
      refine xald 32 ⟨u20, _, rfl⟩ rfl rfl ?_
      refine xgetD 35 (o + 2) hH30 ⟨u20, _, rfl⟩ rfl (bo_lt ho) (by decide) (bo_T ho) rfl (by decide) ?_
      refine xild 36 ⟨u20, _, rfl⟩ rfl rfl ?_
      refine xbip 38 (15) ⟨u20, _, rfl⟩ rfl (by decide) (fun z36 h36 => ?_)
      refine xmul 39 (Int32.toInt b * 15) ⟨u20, _, rfl⟩ rfl (by rw [h36]) (by omega) (by omega) (fun z38 h38 => ?_)
      refine xild 40 ⟨u20, _, rfl⟩ rfl rfl ?_
      refine xadd 41 _ ⟨u20, _, rfl⟩ rfl rfl (by omega) (by omega) (fun z40 h40 => ?_)
      refine xald 42 ⟨u20, _, rfl⟩ rfl rfl ?_
      refine xgetC 45 hH30 ⟨u20, _, rfl⟩ rfl (bo_lt ho) (by decide) (bo_T ho) rfl (by decide) (fun z42 h42 => ?_)
      have bm2 := aMin z42
      have bx2 := aMax z42
      refine xiast 46 (z40).toInt.toNat hH30 ⟨u20, _, rfl⟩ rfl (bo_lt2 ho) (bo_T2 ho) (by omega) (by omega) (by omega) (by omega) (fun hp45 hH45 U45 => ?_)
      have s45 := U45.1
      have n45_o_0 : rN hp45 (o) 0 = rN hp30 (o) 0 := rU_ne U45 (by omega)
      have n45_o_1 : rN hp45 (o) 1 = rN hp30 (o) 1 := rU_ne U45 (by omega)
      exact xretV ⟨u20, _, rfl⟩ rfl (hR hp45 hH45 ((bFx_U U30 (by simp)).trans (bFx_U U45 (by simp))) (fun u v hu hv => by
          by_cases e2 : u = y ∧ v = x
          · obtain ⟨rfl, rfl⟩ := e2
            rw [if_pos (by omega), show 15 * u + v = z40.toInt.toNat by omega, U45.1, h42]
            exact rU_ne U30 (by omega)
          · rw [rU_ne U45 (by omega)]
            by_cases e1 : u = x ∧ v = y
            · obtain ⟨rfl, rfl⟩ := e1
              rw [if_pos (by omega), show 15 * u + v = z25.toInt.toNat by omega, U30.1]
              exact h27
            · rw [if_neg (by omega), rU_ne U30 (by omega)]))
theorem k_nmb {d : Nat} {hp : amH} {R : xQ} {o V x y z n : Nat} {T : sT} {a b c : Int32} (ho : bo o) (hH : bHk 84 bTT hp) (hB : bdOk hp o V T) (hn : n = 15 * x + y) (hL : lsN hp o T n) (ha : a.toInt = (x : Int)) (hb : b.toInt = (y : Int)) (hc : c.toInt = (z : Int)) (hxy : x < y) (hyz : y < z) (hz : z < V) (e : T x y = (z : Int))
    (hR : ∀ hp1, bHk 84 bTT hp1 → bFx [o, o + 2, o + 4] hp hp1 → rN hp1 o 0 = rN hp o 0 → lsN hp1 o T (n + 1) → R (.inl none) hp1) : xK (d + 2) 19 [.ref o, .int a, .int b, .int c] hp R := by
  have q := b_pts hH ho
  have hV := hB.2.1.2.1
  have bV := hB.1
  have tb : trB T n = true := decide_eq_true (by rw [show n / 15 = x by omega, show n % 15 = y by omega]; omega)
  have eL := trL_add tb
  have l35 := trL_35 hB.2.1 (n + 1)
  rw [eL, List.length_append, List.length_singleton] at l35
  obtain ⟨L1, L2, L3⟩ := id hL
  have hm := m3_lt (x := x) (y := y) (z := z) (by omega) (by omega) (by omega)
  refine xin (M := am_m19) rfl rfl (by unfold xAv; simp [amOk, bo_lt ho, Value.category]) ?_
  refine xald 1 ⟨u19, _, rfl⟩ rfl rfl ?_
  refine xgetC 4 hH ⟨u19, _, rfl⟩ rfl (bo_lt ho) (by decide) (bo_T ho) rfl (by decide) (fun z1 h1 => ?_)
  refine xald 5 ⟨u19, _, rfl⟩ rfl rfl ?_
  refine xgetD 8 (o + 4) hH ⟨u19, _, rfl⟩ rfl (bo_lt ho) (by decide) (bo_T ho) rfl (by decide) ?_
  refine xlen 9 hH ⟨u19, _, rfl⟩ rfl (bo_lt4 ho) (bo_T4 ho) (by decide) (by decide) (fun z8 h8 => ?_)
  refine xcmp_ge 12 ⟨u19, _, rfl⟩ rfl (fun c9 => ?_) (fun c9 => ?_)
  · omega
  · refine xald 13 ⟨u19, _, rfl⟩ rfl rfl ?_
    refine xgetD 16 (o + 4) hH ⟨u19, _, rfl⟩ rfl (bo_lt ho) (by decide) (bo_T ho) rfl (by decide) ?_
    refine xald 17 ⟨u19, _, rfl⟩ rfl rfl ?_
    refine xgetC 20 hH ⟨u19, _, rfl⟩ rfl (bo_lt ho) (by decide) (bo_T ho) rfl (by decide) (fun z17 h17 => ?_)
    refine xild 21 ⟨u19, _, rfl⟩ rfl rfl ?_
    refine xild 22 ⟨u19, _, rfl⟩ rfl rfl ?_
    refine xild 23 ⟨u19, _, rfl⟩ rfl rfl ?_
    refine xcallS 26 [.int _, .int _, .int _] [.int _, .ref (o + 4)] hH ⟨u19, _, rfl⟩ rfl rfl rfl (by simp [amOkS, amOk, bo_lt ho, bo_lt1 ho, bo_lt2 ho, bo_lt3 ho, bo_lt4 ho]) rfl (k_three (x := x) (y := y) (z := z) (by omega) (by omega) (by omega) (by omega) (by omega) (by omega) (fun z23 h23 => ⟨_, rfl, ?_⟩))
    have m23 : z23.toInt = ((m3 x y z : Nat) : Int) := h23
    refine xiast 27 (z17).toInt.toNat hH ⟨u19, _, rfl⟩ rfl (bo_lt4 ho) (bo_T4 ho) (by omega) (by omega) (by omega) (by omega) (fun hp26 hH26 U26 => ?_)
    have s26 := U26.1
    refine xald 28 ⟨u19, _, rfl⟩ rfl rfl ?_
    refine xild 29 ⟨u19, _, rfl⟩ rfl rfl ?_
    refine xild 30 ⟨u19, _, rfl⟩ rfl rfl ?_
    refine xcallC 33 (o := o) [.int _, .int _] [] hH26 ⟨u19, _, rfl⟩ rfl rfl (bo_lt ho) (bo_T ho) (by decide) rfl ⟨rfl, rfl, rfl, rfl⟩ rfl (k_np ho hH26 (V := V) (by rw [rU_ne U26 (by omega)]; exact bV) (x := x) (y := y) (by omega) (by omega) (by omega) (by omega) (fun hp30 hH30 F30 E30 => ⟨_, rfl, ?_⟩))
    refine xald 34 ⟨u19, _, rfl⟩ rfl rfl ?_
    refine xild 35 ⟨u19, _, rfl⟩ rfl rfl ?_
    refine xild 36 ⟨u19, _, rfl⟩ rfl rfl ?_
    refine xcallC 39 (o := o) [.int _, .int _] [] hH30 ⟨u19, _, rfl⟩ rfl rfl (bo_lt ho) (bo_T ho) (by decide) rfl ⟨rfl, rfl, rfl, rfl⟩ rfl (k_np ho hH30 (V := V) (by rw [bFx_n F30 (by simp), rU_ne U26 (by omega)]; exact bV) (x := x) (y := z) (by omega) (by omega) (by omega) (by omega) (fun hp36 hH36 F36 E36 => ⟨_, rfl, ?_⟩))
    refine xald 40 ⟨u19, _, rfl⟩ rfl rfl ?_
    refine xild 41 ⟨u19, _, rfl⟩ rfl rfl ?_
    refine xild 42 ⟨u19, _, rfl⟩ rfl rfl ?_
    refine xcallC 45 (o := o) [.int _, .int _] [] hH36 ⟨u19, _, rfl⟩ rfl rfl (bo_lt ho) (bo_T ho) (by decide) rfl ⟨rfl, rfl, rfl, rfl⟩ rfl (k_np ho hH36 (V := V) (by rw [bFx_n F36 (by simp), bFx_n F30 (by simp), rU_ne U26 (by omega)]; exact bV) (x := y) (y := z) (by omega) (by omega) (by omega) (by omega) (fun hp42 hH42 F42 E42 => ⟨_, rfl, ?_⟩))
    have s42 : rN hp42 o 1 = rN hp o 1 := by rw [bFx_n F42 (by simp), bFx_n F36 (by simp), bFx_n F30 (by simp), rU_ne U26 (by omega)]
    have z42 : rN hp42 o 0 = rN hp o 0 := by rw [bFx_n F42 (by simp), bFx_n F36 (by simp), bFx_n F30 (by simp), rU_ne U26 (by omega)]
    refine xald 46 ⟨u19, _, rfl⟩ rfl rfl ?_
    refine xdup 47 ⟨u19, _, rfl⟩ rfl rfl ?_
    refine xgetC 50 hH42 ⟨u19, _, rfl⟩ rfl (bo_lt ho) (by decide) (bo_T ho) rfl (by decide) (fun z47 h47 => ?_)
    refine xcst 51 (1) ⟨u19, _, rfl⟩ rfl (by decide) (fun z50 h50 => ?_)
    refine xadd 52 _ ⟨u19, _, rfl⟩ rfl rfl (by omega) (by omega) (fun z51 h51 => ?_)
    refine xputC 55 hH42 ⟨u19, _, rfl⟩ rfl (bo_lt ho) (by decide) (bo_T ho) rfl (by decide) ⟨rfl, rfl⟩ (by omega) (by omega) (fun hp52 hH52 U52 => ?_)
    have s52 := U52.1
    have s1 := U52.1
    have one : ∀ u v, u < 15 → v < 15 → rN hp52 (o + 2) (15 * u + v) = if sPr x y z u v then (((trL T n).length : Nat) : Int) else rN hp (o + 2) (15 * u + v) := fun u v hu hv => by
      rw [rU_ne U52 (by omega), E42 u v hu hv, E36 u v hu hv, E30 u v hu hv, bFx_n F36 (by simp), bFx_n F30 (by simp), rU_ne U26 (by omega), rU_ne U26 (by omega), L1]
      by_cases g1 : (u = y ∧ v = z) ∨ (u = z ∧ v = y)
      · rw [if_pos g1, if_pos (by omega)]
      · rw [if_neg g1]
        by_cases g2 : (u = x ∧ v = z) ∨ (u = z ∧ v = x)
        · rw [if_pos g2, if_pos (by omega)]
        · rw [if_neg g2]
          by_cases g3 : (u = x ∧ v = y) ∨ (u = y ∧ v = x)
          · rw [if_pos g3, if_pos (by omega)]
          · rw [if_neg g3, if_neg (by omega)]
    have gl : ∀ t, t < (trL T n).length → (trL T n ++ [n]).getD t 0 = (trL T n).getD t 0 := fun t ht => by
      rw [List.getD_eq_getElem?_getD, List.getD_eq_getElem?_getD, List.getElem?_append_left ht]
    have gn : (trL T n ++ [n]).getD (trL T n).length 0 = n := by
      rw [List.getD_eq_getElem?_getD, List.getElem?_append_right (Nat.le_refl _), Nat.sub_self]; rfl
    refine xretV ⟨u19, _, rfl⟩ rfl (hR hp52 hH52 (((((bFx_U U26 (by simp)).trans (F30.mono (by simp))).trans (F36.mono (by simp))).trans (F42.mono (by simp))).trans (bFx_U U52 (by simp))) (by rw [rU_ne U52 (by omega)]; exact z42) ⟨?_, ?_, ?_⟩)
    · rw [eL, List.length_append, List.length_singleton, s1]
      omega
    · intro t ht
      rw [eL, List.length_append, List.length_singleton] at ht
      rw [eL, rU_ne U52 (by omega), bFx_n F42 (by simp), bFx_n F36 (by simp), bFx_n F30 (by simp)]
      by_cases g : t = (trL T n).length
      · rw [g, gn, show (trL T n).length = z17.toInt.toNat by omega, U26.1, h23]
        unfold mk3
        rw [show n / 15 = x by omega, show n % 15 = y by omega, e, Int.toNat_natCast]
      · rw [gl t (by omega), rU_ne U26 (by omega)]
        exact L2 t (by omega)
    · intro t u v ht hu hv hp
      rw [eL, List.length_append, List.length_singleton] at ht
      rw [eL] at hp
      rw [one u v hu hv]
      by_cases g : t = (trL T n).length
      · rw [g, gn, show n / 15 = x by omega, show n % 15 = y by omega, e, Int.toNat_natCast] at hp
        rw [if_pos hp, g]
      · rw [gl t (by omega)] at hp
        have hmem : (trL T n).getD t 0 ∈ trL T n := by
          rw [List.getD_eq_getElem?_getD, List.getElem?_eq_getElem (by omega)]
          exact List.getElem_mem _
        obtain ⟨k1, k2⟩ := (trL_mem n).mp hmem
        obtain ⟨c9, c1, c2, c3, c4⟩ := tr_pts hB.2.1 k2
        rw [c1, Int.toNat_natCast] at hp
        have hno : ¬ sPr x y z u v := fun hq => by
          have := pr_one hB.2.1 hxy hyz c2 c3 e c1 hq hp
          omega
        rw [if_neg hno]
        exact L3 t u v (by omega) hu hv (by rw [c1, Int.toNat_natCast]; exact hp)
end
/-! ##### 19.m.026.28b ##### -/
section
/-! ===== the class lists its triples: all ===== -/
theorem l18i {d : Nat} {hp0 : amH} {R : xQ} {o V x : Nat} {T : sT} {a : Int32} (ho : bo o) (ha : a.toInt = (x : Int)) (hx : x < V)
    (hQ : ∀ hp (y : Int32) (w : Option Value), bHk 84 bTT hp → bFx [o, o + 2, o + 4] hp0 hp → bdOk hp o V T → lsN hp o T (15 * (x + 1)) → xV (d + 3) am_m18 52 [some (.ref o), some (.int a), some (.int y), w] [] hp R) :
    ∀ (jj y : Nat) (b : Int32) (hp : amH) (w : Option Value), bHk 84 bTT hp → bFx [o, o + 2, o + 4] hp0 hp → bdOk hp o V T → lsN hp o T (15 * x + y) → b.toInt = (y : Int) → x < y → y + jj = V → xV (d + 3) am_m18 19 [some (.ref o), some (.int a), some (.int b), w] [] hp R := by
  intro jj
  induction jj with
  | zero =>
    intro y b hp w hH hF hB hL hb hxy hj
    have hV := hB.2.1.2.1
    have bV := hB.1
    refine xild 20 ⟨u18, _, rfl⟩ rfl rfl ?_
    refine xald 21 ⟨u18, _, rfl⟩ rfl rfl ?_
    refine xgetC 24 hH ⟨u18, _, rfl⟩ rfl (bo_lt ho) (by decide) (bo_T ho) rfl (by decide) (fun z21 h21 => ?_)
    refine xcmp_ge 27 ⟨u18, _, rfl⟩ rfl (fun c24 => ?_) (fun c24 => ?_)
    · have e : trL T (15 * (x + 1)) = trL T (15 * x + y) := trL_no (by omega) (fun k k1 k2 => decide_eq_false (fun z => by
        rw [show k / 15 = x by omega] at z
        rcases hB.2.1.2.2 x (k % 15) with g | ⟨c, g1, g2, g3, -⟩ <;> omega))
      refine hQ hp b w hH hF hB ?_
      unfold lsN
      rw [e]
      exact hL
    · omega
  | succ jj ih =>
    intro y b hp w hH hF hB hL hb hxy hj
    have hV := hB.2.1.2.1
    have bV := hB.1
    refine xild 20 ⟨u18, _, rfl⟩ rfl rfl ?_
    refine xald 21 ⟨u18, _, rfl⟩ rfl rfl ?_
    refine xgetC 24 hH ⟨u18, _, rfl⟩ rfl (bo_lt ho) (by decide) (bo_T ho) rfl (by decide) (fun z21 h21 => ?_)
    refine xcmp_ge 27 ⟨u18, _, rfl⟩ rfl (fun c24 => ?_) (fun c24 => ?_)
    · omega
    · refine xald 28 ⟨u18, _, rfl⟩ rfl rfl ?_
      refine xild 29 ⟨u18, _, rfl⟩ rfl rfl ?_
      refine xild 30 ⟨u18, _, rfl⟩ rfl rfl ?_
      refine xcallC 33 (o := o) [.int _, .int _] [] hH ⟨u18, _, rfl⟩ rfl rfl (bo_lt ho) (bo_T ho) (by decide) rfl ⟨rfl, rfl, rfl, rfl⟩ rfl (k_thd ho hH hB (fun z30 h30 => ⟨_, rfl, ?_⟩))
      rw [if_pos (by omega), show a.toInt.toNat = x by omega, show b.toInt.toNat = y by omega] at h30
      refine xist 34 ⟨u18, _, rfl⟩ rfl rfl ?_
      refine xild 35 ⟨u18, _, rfl⟩ rfl rfl ?_
      refine xild 36 ⟨u18, _, rfl⟩ rfl rfl ?_
      refine xcmp_le 39 ⟨u18, _, rfl⟩ rfl (fun c36 => ?_) (fun c36 => ?_)
      · refine xinc 49 (1) ⟨u18, _, rfl⟩ rfl rfl rfl (by decide) (by omega) (by omega) (fun z46 h46 => ?_)
        refine xgoto ⟨u18, _, rfl⟩ ?_
        have e : trL T (15 * x + (y + 1)) = trL T (15 * x + y) := trL_no (by omega) (fun k k1 k2 => decide_eq_false (fun z => by
          rw [show k / 15 = x by omega, show k % 15 = y by omega] at z
          omega))
        exact ih (y + 1) _ hp _ hH hF hB (by unfold lsN; rw [e]; exact hL) (by omega) (by omega) (by omega)
      · obtain ⟨c, ec, c1, c2, c3, -⟩ := sOk_at hB.2.1 (rfl : T x y = _) (by omega)
        refine xald 40 ⟨u18, _, rfl⟩ rfl rfl ?_
        refine xild 41 ⟨u18, _, rfl⟩ rfl rfl ?_
        refine xild 42 ⟨u18, _, rfl⟩ rfl rfl ?_
        refine xild 43 ⟨u18, _, rfl⟩ rfl rfl ?_
        refine xcallC 46 (o := o) [.int _, .int _, .int _] [] hH ⟨u18, _, rfl⟩ rfl rfl (bo_lt ho) (bo_T ho) (by decide) rfl ⟨rfl, rfl, rfl, rfl⟩ rfl (k_nmb (z := c) ho hH hB rfl hL ha hb (by omega) hxy (by omega) (by omega) ec (fun hp43 hH43 F43 A43 L43 => ⟨_, rfl, ?_⟩))
        refine xinc 49 (1) ⟨u18, _, rfl⟩ rfl rfl rfl (by decide) (by omega) (by omega) (fun z46 h46 => ?_)
        refine xgoto ⟨u18, _, rfl⟩ ?_
        exact ih (y + 1) _ hp43 _ hH43 (hF.trans F43) (bdOk_fr hB A43 (fun i => bFx_n F43 (by simp)) (fun i => bFx_n F43 (by simp))) L43 (by omega) (by omega) (by omega)
theorem l18o {d : Nat} {hp0 : amH} {R : xQ} {o V : Nat} {T : sT} (ho : bo o) (hR : ∀ hp1, bHk 84 bTT hp1 → bFx [o, o + 2, o + 4] hp0 hp1 → bdOk hp1 o V T → lsN hp1 o T 225 → R (.inl none) hp1) :
    ∀ (jj x : Nat) (a : Int32) (hp : amH) (v w : Option Value), bHk 84 bTT hp → bFx [o, o + 2, o + 4] hp0 hp → bdOk hp o V T → lsN hp o T (15 * x) → a.toInt = (x : Int) → x + jj = V → xV (d + 3) am_m18 7 [some (.ref o), some (.int a), v, w] [] hp R := by
  intro jj
  induction jj with
  | zero =>
    intro x a hp v w hH hF hB hL ha hj
    have hV := hB.2.1.2.1
    have bV := hB.1
    refine xild 8 ⟨u18, _, rfl⟩ rfl rfl ?_
    refine xald 9 ⟨u18, _, rfl⟩ rfl rfl ?_
    refine xgetC 12 hH ⟨u18, _, rfl⟩ rfl (bo_lt ho) (by decide) (bo_T ho) rfl (by decide) (fun z9 h9 => ?_)
    refine xcmp_ge 15 ⟨u18, _, rfl⟩ rfl (fun c12 => ?_) (fun c12 => ?_)
    · have e : trL T 225 = trL T (15 * x) := trL_no (by omega) (fun k k1 k2 => decide_eq_false (fun z => by
        rcases hB.2.1.2.2 (k / 15) (k % 15) with g | ⟨c, g1, g2, g3, -⟩ <;> omega))
      exact xretV ⟨u18, _, rfl⟩ rfl (hR hp hH hF hB (by unfold lsN; rw [e]; exact hL))
    · omega
  | succ jj ih =>
    intro x a hp v w hH hF hB hL ha hj
    have hV := hB.2.1.2.1
    have bV := hB.1
    refine xild 8 ⟨u18, _, rfl⟩ rfl rfl ?_
    refine xald 9 ⟨u18, _, rfl⟩ rfl rfl ?_
    refine xgetC 12 hH ⟨u18, _, rfl⟩ rfl (bo_lt ho) (by decide) (bo_T ho) rfl (by decide) (fun z9 h9 => ?_)
    refine xcmp_ge 15 ⟨u18, _, rfl⟩ rfl (fun c12 => ?_) (fun c12 => ?_)
    · omega
    · refine xild 16 ⟨u18, _, rfl⟩ rfl rfl ?_
      refine xcst 17 (1) ⟨u18, _, rfl⟩ rfl (by decide) (fun z16 h16 => ?_)
      refine xadd 18 _ ⟨u18, _, rfl⟩ rfl rfl (by omega) (by omega) (fun z17 h17 => ?_)
      refine xist 19 ⟨u18, _, rfl⟩ rfl rfl ?_
      have e : trL T (15 * x + (x + 1)) = trL T (15 * x) := trL_no (by omega) (fun k k1 k2 => decide_eq_false (fun z => by
        rw [show k / 15 = x by omega] at z
        omega))
      refine l18i ho ha (by omega) (fun hp1 y1 w1 g1 g2 g3 g4 => ?_) (V - (x + 1)) (x + 1) _ hp w hH hF hB (by unfold lsN; rw [e]; exact hL) (by omega) (by omega) (by omega)
      refine xinc 55 (1) ⟨u18, _, rfl⟩ rfl rfl rfl (by decide) (by omega) (by omega) (fun z52 h52 => ?_)
      refine xgoto ⟨u18, _, rfl⟩ ?_
      exact ih (x + 1) _ hp1 _ _ g1 g2 g3 g4 (by omega) (by omega)
theorem k_list {d : Nat} {hp : amH} {R : xQ} {o V : Nat} {T : sT} (ho : bo o) (hH : bHk 84 bTT hp) (hB : bdOk hp o V T) (hR : ∀ hp1, bHk 84 bTT hp1 → bFx [o, o + 2, o + 4] hp hp1 → bdOk hp1 o V T → lsN hp1 o T 225 → R (.inl none) hp1) : xK (d + 3) 18 [.ref o] hp R := by
  have bV := hB.1
  have hV := hB.2.1.2.1
  refine xin (M := am_m18) rfl rfl (by unfold xAv; simp [amOk, bo_lt ho, Value.category]) ?_
  refine xald 1 ⟨u18, _, rfl⟩ rfl rfl ?_
  refine xcst 2 (0) ⟨u18, _, rfl⟩ rfl (by decide) (fun z1 h1 => ?_)
  refine xputC 5 hH ⟨u18, _, rfl⟩ rfl (bo_lt ho) (by decide) (bo_T ho) rfl (by decide) ⟨rfl, rfl⟩ (by omega) (by omega) (fun hp2 hH2 U2 => ?_)
  have s2 := U2.1
  have n2_o_0 : rN hp2 (o) 0 = rN hp (o) 0 := rU_ne U2 (by omega)
  refine xcst 6 (0) ⟨u18, _, rfl⟩ rfl (by decide) (fun z5 h5 => ?_)
  refine xist 7 ⟨u18, _, rfl⟩ rfl rfl ?_
  refine xpad 2 ?_
  exact l18o ho hR V 0 _ hp2 _ _ hH2 (bFx_U U2 (by simp)) (bdOk_fr hB n2_o_0 (fun i => rU_ne U2 (by omega)) (fun i => rU_ne U2 (by omega))) ⟨by rw [s2]; exact h1, fun t ht => absurd ht (Nat.not_lt_zero t), fun t u v ht => absurd ht (Nat.not_lt_zero t)⟩ (by omega) (by omega)
end
/-! ##### 19.m.027.28c ##### -/
section
/-! ===== the reference lists its triples ===== -/
/-- the triples listed up to the pair n: how many, their points, their sets -/
def rlN (hp : amH) (T : sT) (n : Nat) : Prop := rN hp 66 12 = (((trL T n).length : Nat) : Int) ∧ ∀ t, t < (trL T n).length → rN hp 72 t = (((trL T n).getD t 0 / 15 : Nat) : Int) ∧ rN hp 73 t = (((trL T n).getD t 0 % 15 : Nat) : Int) ∧ rN hp 74 t = T ((trL T n).getD t 0 / 15) ((trL T n).getD t 0 % 15) ∧ rN hp 75 t = ((mk3 T ((trL T n).getD t 0) : Nat) : Int)
theorem gd_app {L : List Nat} {n t : Nat} (ht : t < L.length) : (L ++ [n]).getD t 0 = L.getD t 0 := by
  rw [List.getD_eq_getElem?_getD, List.getD_eq_getElem?_getD, List.getElem?_append_left ht]
theorem gd_end {L : List Nat} {n : Nat} : (L ++ [n]).getD L.length 0 = n := by
  rw [List.getD_eq_getElem?_getD, List.getElem?_append_right (Nat.le_refl _), Nat.sub_self]; rfl
theorem m211i {d : Nat} {hp0 : amH} {R : xQ} {V x : Nat} {T : sT} {a : Int32} (ha : a.toInt = (x : Int)) (hx : x < V)
    (hQ : ∀ hp (y : Int32) (w : Option Value), bHk 84 bTT hp → bFr bLT hp0 hp → rdOk hp V T → rlN hp T (15 * (x + 1)) → xV (d + 1) am_m211 108 [some (.ref 66), some (.int a), some (.int y), w] [] hp R) :
    ∀ (jj y : Nat) (b : Int32) (hp : amH) (w : Option Value), bHk 84 bTT hp → bFr bLT hp0 hp → rdOk hp V T → rlN hp T (15 * x + y) → b.toInt = (y : Int) → x < y → y + jj = V → xV (d + 1) am_m211 19 [some (.ref 66), some (.int a), some (.int b), w] [] hp R := by
  intro jj
  induction jj with
  | zero =>
    intro y b hp w hH hF hB hL hb hxy hj
    have hV := hB.2.1.2.1
    have bV := hB.1
    refine xild 20 ⟨u211, _, rfl⟩ rfl rfl ?_
    refine xald 21 ⟨u211, _, rfl⟩ rfl rfl ?_
    refine xcall 24 [.ref 66] [.int _] hH ⟨u211, _, rfl⟩ rfl rfl rfl rfl rfl (k_points hH (fun z21 h21 => ⟨_, rfl, ?_⟩))
    refine xcmp_ge 27 ⟨u211, _, rfl⟩ rfl (fun c24 => ?_) (fun c24 => ?_)
    · have e : trL T (15 * (x + 1)) = trL T (15 * x + y) := trL_no (by omega) (fun k k1 k2 => decide_eq_false (fun z => by
        rw [show k / 15 = x by omega] at z
        rcases hB.2.1.2.2 x (k % 15) with g | ⟨c, g1, g2, g3, -⟩ <;> omega))
      refine hQ hp b w hH hF hB ?_
      unfold rlN
      rw [e]
      exact hL
    · omega
  | succ jj ih =>
    intro y b hp w hH hF hB hL hb hxy hj
    have hV := hB.2.1.2.1
    have bV := hB.1
    have hTT := hB.2.2.1 x y (by omega) (by omega)
    refine xild 20 ⟨u211, _, rfl⟩ rfl rfl ?_
    refine xald 21 ⟨u211, _, rfl⟩ rfl rfl ?_
    refine xcall 24 [.ref 66] [.int _] hH ⟨u211, _, rfl⟩ rfl rfl rfl rfl rfl (k_points hH (fun z21 h21 => ⟨_, rfl, ?_⟩))
    refine xcmp_ge 27 ⟨u211, _, rfl⟩ rfl (fun c24 => ?_) (fun c24 => ?_)
    · omega
    · refine xald 28 ⟨u211, _, rfl⟩ rfl rfl ?_
      refine xild 29 ⟨u211, _, rfl⟩ rfl rfl ?_
      refine xild 30 ⟨u211, _, rfl⟩ rfl rfl ?_
      refine xcall 33 [.ref 66, .int _, .int _] [] hH ⟨u211, _, rfl⟩ rfl rfl rfl rfl rfl (k_third hH (by omega) (by omega) (by omega) (by omega) (fun z30 h30 => ⟨_, rfl, ?_⟩))
      rw [show a.toInt.toNat = x by omega, show b.toInt.toNat = y by omega, hTT] at h30
      refine xist 34 ⟨u211, _, rfl⟩ rfl rfl ?_
      refine xild 35 ⟨u211, _, rfl⟩ rfl rfl ?_
      refine xild 36 ⟨u211, _, rfl⟩ rfl rfl ?_
      refine xcmp_ge 39 ⟨u211, _, rfl⟩ rfl (fun c36 => ?_) (fun c36 => ?_)
      · have hlt : (y : Int) < T x y := by
          rcases hB.2.1.2.2 x y with g | ⟨c, g1, g2, g3, g4, g5, g6, g7, -⟩ <;> omega
        obtain ⟨c, ec, c1, c2, c3, -⟩ := sOk_at hB.2.1 (rfl : T x y = _) (by omega)
        have tb : trB T (15 * x + y) = true := decide_eq_true (by rw [show (15 * x + y) / 15 = x by omega, show (15 * x + y) % 15 = y by omega]; omega)
        have eL := trL_add tb
        have l35 := trL_35 hB.2.1 (15 * x + y + 1)
        rw [eL, List.length_append, List.length_singleton] at l35
        obtain ⟨L1, L2⟩ := id hL
        have hm := m3_lt (x := x) (y := y) (z := c) (by omega) (by omega) (by omega)
        refine xald 43 ⟨u211, _, rfl⟩ rfl rfl ?_
        refine xgetR 46 72 hH ⟨u211, _, rfl⟩ rfl rfl ?_
        refine xald 47 ⟨u211, _, rfl⟩ rfl rfl ?_
        refine xgetI 50 hH ⟨u211, _, rfl⟩ rfl rfl (fun z47 h47 => ?_)
        refine xild 51 ⟨u211, _, rfl⟩ rfl rfl ?_
        refine xiast 52 (z47).toInt.toNat hH ⟨u211, _, rfl⟩ rfl (by decide) rfl (by omega) (by omega) (by omega) (by omega) (fun hp51 hH51 U51 => ?_)
        have s51 := U51.1
        have n51_66_12 : rN hp51 (66) 12 = rN hp (66) 12 := rU_ne U51 (by omega)
        refine xald 53 ⟨u211, _, rfl⟩ rfl rfl ?_
        refine xgetR 56 73 hH51 ⟨u211, _, rfl⟩ rfl rfl ?_
        refine xald 57 ⟨u211, _, rfl⟩ rfl rfl ?_
        refine xgetI 60 hH51 ⟨u211, _, rfl⟩ rfl rfl (fun z57 h57 => ?_)
        refine xild 61 ⟨u211, _, rfl⟩ rfl rfl ?_
        refine xiast 62 (z57).toInt.toNat hH51 ⟨u211, _, rfl⟩ rfl (by decide) rfl (by omega) (by omega) (by omega) (by omega) (fun hp61 hH61 U61 => ?_)
        have s61 := U61.1
        have n61_66_12 : rN hp61 (66) 12 = rN hp51 (66) 12 := rU_ne U61 (by omega)
        refine xald 63 ⟨u211, _, rfl⟩ rfl rfl ?_
        refine xgetR 66 74 hH61 ⟨u211, _, rfl⟩ rfl rfl ?_
        refine xald 67 ⟨u211, _, rfl⟩ rfl rfl ?_
        refine xgetI 70 hH61 ⟨u211, _, rfl⟩ rfl rfl (fun z67 h67 => ?_)
        refine xild 71 ⟨u211, _, rfl⟩ rfl rfl ?_
        refine xiast 72 (z67).toInt.toNat hH61 ⟨u211, _, rfl⟩ rfl (by decide) rfl (by omega) (by omega) (by omega) (by omega) (fun hp71 hH71 U71 => ?_)
        have s71 := U71.1
        have n71_66_12 : rN hp71 (66) 12 = rN hp61 (66) 12 := rU_ne U71 (by omega)
        refine xald 73 ⟨u211, _, rfl⟩ rfl rfl ?_
        refine xgetR 76 75 hH71 ⟨u211, _, rfl⟩ rfl rfl ?_
        refine xald 77 ⟨u211, _, rfl⟩ rfl rfl ?_
        refine xgetI 80 hH71 ⟨u211, _, rfl⟩ rfl rfl (fun z77 h77 => ?_)
        refine xcst 81 (1) ⟨u211, _, rfl⟩ rfl (by decide) (fun z80 h80 => ?_)
        refine xild 82 ⟨u211, _, rfl⟩ rfl rfl ?_
        refine xshl 83 ⟨u211, _, rfl⟩ rfl ?_
        refine xcst 84 (1) ⟨u211, _, rfl⟩ rfl (by decide) (fun z83 h83 => ?_)
        refine xild 85 ⟨u211, _, rfl⟩ rfl rfl ?_
        refine xshl 86 ⟨u211, _, rfl⟩ rfl ?_
        refine xor_ 87 ⟨u211, _, rfl⟩ rfl ?_
        refine xcst 88 (1) ⟨u211, _, rfl⟩ rfl (by decide) (fun z87 h87 => ?_)
        refine xild 89 ⟨u211, _, rfl⟩ rfl rfl ?_
        refine xshl 90 ⟨u211, _, rfl⟩ rfl ?_
        refine xor_ 91 ⟨u211, _, rfl⟩ rfl ?_
        have e1 := i_shl h80 ha (by omega)
        have e2 := i_shl h83 hb (by omega)
        have e3 := i_or e1.1 e2.1 e1.2 e2.2
        have e4 := i_shl h87 (show z30.toInt = (c : Int) by omega) (by omega)
        have e5 := i_or e3.1 e4.1 e3.2 e4.2
        have eM : ((z80 <<< (a &&& 31) ||| z83 <<< (b &&& 31)) ||| z87 <<< (z30 &&& 31)).toInt = ((m3 x y c : Nat) : Int) := e5.1
        refine xiast 92 (z77).toInt.toNat hH71 ⟨u211, _, rfl⟩ rfl (by decide) rfl (by omega) (by omega) (by omega) (by omega) (fun hp91 hH91 U91 => ?_)
        have s91 := U91.1
        have n91_66_12 : rN hp91 (66) 12 = rN hp71 (66) 12 := rU_ne U91 (by omega)
        refine xald 93 ⟨u211, _, rfl⟩ rfl rfl ?_
        refine xdup 94 ⟨u211, _, rfl⟩ rfl rfl ?_
        refine xgetI 97 hH91 ⟨u211, _, rfl⟩ rfl rfl (fun z94 h94 => ?_)
        refine xcst 98 (1) ⟨u211, _, rfl⟩ rfl (by decide) (fun z97 h97 => ?_)
        refine xadd 99 _ ⟨u211, _, rfl⟩ rfl rfl (by omega) (by omega) (fun z98 h98 => ?_)
        refine xputI 102 hH91 ⟨u211, _, rfl⟩ rfl rfl ⟨rfl, rfl⟩ (by omega) (by omega) (fun hp99 hH99 U99 => ?_)
        have s99 := U99.1
        refine xinc 105 (1) ⟨u211, _, rfl⟩ rfl rfl rfl (by decide) (by omega) (by omega) (fun z102 h102 => ?_)
        refine xgoto ⟨u211, _, rfl⟩ ?_
        have s99 := U99.1
        have u51 := U51.1
        have u61 := U61.1
        have u71 := U71.1
        have u91 := U91.1
        refine ih (y + 1) _ hp99 _ hH99 (hF.trans (((((rU_fr U51 (bIn_all (by decide) _)).trans (rU_fr U61 (bIn_all (by decide) _))).trans (rU_fr U71 (bIn_all (by decide) _))).trans (rU_fr U91 (bIn_all (by decide) _))).trans (rU_fr U99 (by decide)))) (rdOk_fr hB (fun i => by rw [rU_ne U99 (by omega), rU_ne U91 (by omega), rU_ne U71 (by omega), rU_ne U61 (by omega), rU_ne U51 (by omega)])) ?_ (by omega) (by omega) (by omega)
        rw [show 15 * x + (y + 1) = 15 * x + y + 1 by omega]
        refine ⟨by rw [eL, List.length_append, List.length_singleton]; omega, fun t ht => ?_⟩
        rw [eL, List.length_append, List.length_singleton] at ht
        rw [eL, rU_ne U99 (by omega), rU_ne U99 (by omega), rU_ne U99 (by omega), rU_ne U99 (by omega), rU_ne U91 (by omega), rU_ne U91 (by omega), rU_ne U91 (by omega), rU_ne U71 (by omega), rU_ne U71 (by omega), rU_ne U61 (by omega)]
        by_cases g : t = (trL T (15 * x + y)).length
        · subst g
          rw [gd_end, show (15 * x + y) / 15 = x by omega, show (15 * x + y) % 15 = y by omega]
          refine ⟨?_, ?_, ?_, ?_⟩
          · rw [show (trL T (15 * x + y)).length = z47.toInt.toNat by omega]; omega
          · rw [show (trL T (15 * x + y)).length = z57.toInt.toNat by omega]; omega
          · rw [show (trL T (15 * x + y)).length = z67.toInt.toNat by omega]; omega
          · rw [show (trL T (15 * x + y)).length = z77.toInt.toNat by omega, u91, eM]
            unfold mk3
            rw [show (15 * x + y) / 15 = x by omega, show (15 * x + y) % 15 = y by omega, ec, Int.toNat_natCast]
        · rw [gd_app (by omega), rU_ne U51 (by omega), rU_ne U61 (by omega), rU_ne U71 (by omega), rU_ne U91 (by omega)]
          have := L2 t (by omega)
          rw [rU_ne U71 (by omega), rU_ne U61 (by omega), rU_ne U61 (by omega), rU_ne U51 (by omega), rU_ne U51 (by omega), rU_ne U51 (by omega)]
          exact this
      · refine xgoto ⟨u211, _, rfl⟩ ?_
        refine xinc 105 (1) ⟨u211, _, rfl⟩ rfl rfl rfl (by decide) (by omega) (by omega) (fun z102 h102 => ?_)
        refine xgoto ⟨u211, _, rfl⟩ ?_
        have e : trL T (15 * x + (y + 1)) = trL T (15 * x + y) := trL_no (by omega) (fun k k1 k2 => decide_eq_false (fun z => by
          rw [show k / 15 = x by omega, show k % 15 = y by omega] at z
          omega))
        exact ih (y + 1) _ hp _ hH hF hB (by unfold rlN; rw [e]; exact hL) (by omega) (by omega) (by omega)
theorem m211o {d : Nat} {hp0 : amH} {R : xQ} {V : Nat} {T : sT} (hR : ∀ hp1, bHk 84 bTT hp1 → bFr bLT hp0 hp1 → rdOk hp1 V T → rlN hp1 T 225 → R (.inl none) hp1) :
    ∀ (jj x : Nat) (a : Int32) (hp : amH) (v w : Option Value), bHk 84 bTT hp → bFr bLT hp0 hp → rdOk hp V T → rlN hp T (15 * x) → a.toInt = (x : Int) → x + jj = V → xV (d + 1) am_m211 7 [some (.ref 66), some (.int a), v, w] [] hp R := by
  intro jj
  induction jj with
  | zero =>
    intro x a hp v w hH hF hB hL ha hj
    have hV := hB.2.1.2.1
    have bV := hB.1
    refine xild 8 ⟨u211, _, rfl⟩ rfl rfl ?_
    refine xald 9 ⟨u211, _, rfl⟩ rfl rfl ?_
    refine xcall 12 [.ref 66] [.int _] hH ⟨u211, _, rfl⟩ rfl rfl rfl rfl rfl (k_points hH (fun z9 h9 => ⟨_, rfl, ?_⟩))
    refine xcmp_ge 15 ⟨u211, _, rfl⟩ rfl (fun c12 => ?_) (fun c12 => ?_)
    · have e : trL T 225 = trL T (15 * x) := trL_no (by omega) (fun k k1 k2 => decide_eq_false (fun z => by
        rcases hB.2.1.2.2 (k / 15) (k % 15) with g | ⟨c, g1, g2, g3, -⟩ <;> omega))
      exact xretV ⟨u211, _, rfl⟩ rfl (hR hp hH hF hB (by unfold rlN; rw [e]; exact hL))
    · omega
  | succ jj ih =>
    intro x a hp v w hH hF hB hL ha hj
    have hV := hB.2.1.2.1
    have bV := hB.1
    refine xild 8 ⟨u211, _, rfl⟩ rfl rfl ?_
    refine xald 9 ⟨u211, _, rfl⟩ rfl rfl ?_
    refine xcall 12 [.ref 66] [.int _] hH ⟨u211, _, rfl⟩ rfl rfl rfl rfl rfl (k_points hH (fun z9 h9 => ⟨_, rfl, ?_⟩))
    refine xcmp_ge 15 ⟨u211, _, rfl⟩ rfl (fun c12 => ?_) (fun c12 => ?_)
    · omega
    · refine xild 16 ⟨u211, _, rfl⟩ rfl rfl ?_
      refine xcst 17 (1) ⟨u211, _, rfl⟩ rfl (by decide) (fun z16 h16 => ?_)
      refine xadd 18 _ ⟨u211, _, rfl⟩ rfl rfl (by omega) (by omega) (fun z17 h17 => ?_)
      refine xist 19 ⟨u211, _, rfl⟩ rfl rfl ?_
      have e : trL T (15 * x + (x + 1)) = trL T (15 * x) := trL_no (by omega) (fun k k1 k2 => decide_eq_false (fun z => by
        rw [show k / 15 = x by omega] at z
        omega))
      refine m211i ha (by omega) (fun hp1 y1 w1 g1 g2 g3 g4 => ?_) (V - (x + 1)) (x + 1) _ hp w hH hF hB (by unfold rlN; rw [e]; exact hL) (by omega) (by omega) (by omega)
      refine xinc 111 (1) ⟨u211, _, rfl⟩ rfl rfl rfl (by decide) (by omega) (by omega) (fun z108 h108 => ?_)
      refine xgoto ⟨u211, _, rfl⟩ ?_
      exact ih (x + 1) _ hp1 _ _ g1 g2 g3 g4 (by omega) (by omega)
theorem k_rlst {d : Nat} {hp : amH} {R : xQ} {V : Nat} {T : sT} (hH : bHk 84 bTT hp) (hB : rdOk hp V T) (hR : ∀ hp1, bHk 84 bTT hp1 → bFr bLT hp hp1 → rdOk hp1 V T → rlN hp1 T 225 → R (.inl none) hp1) : xK (d + 1) 211 [.ref 66] hp R := by
  have bV := hB.1
  have hV := hB.2.1.2.1
  refine xin (M := am_m211) rfl rfl rfl ?_
  refine xald 1 ⟨u211, _, rfl⟩ rfl rfl ?_
  refine xcst 2 (0) ⟨u211, _, rfl⟩ rfl (by decide) (fun z1 h1 => ?_)
  refine xputI 5 hH ⟨u211, _, rfl⟩ rfl rfl ⟨rfl, rfl⟩ (by omega) (by omega) (fun hp2 hH2 U2 => ?_)
  have s2 := U2.1
  refine xcst 6 (0) ⟨u211, _, rfl⟩ rfl (by decide) (fun z5 h5 => ?_)
  refine xist 7 ⟨u211, _, rfl⟩ rfl rfl ?_
  refine xpad 2 ?_
  exact m211o hR V 0 _ hp2 _ _ hH2 (rU_fr U2 (by decide)) (rdOk_fr hB (fun i => rU_ne U2 (by omega))) ⟨by rw [s2]; exact h1, fun t ht => absurd ht (Nat.not_lt_zero t)⟩ (by omega) (by omega)
/-- how many triples there are -/
theorem k_rtm {d : Nat} {hp : amH} {R : xQ} {V : Nat} {T : sT} (hH : bHk 84 bTT hp) (hB : rdOk hp V T) (hR : ∀ (z : Int32) hp1, bHk 84 bTT hp1 → bFr bLT hp hp1 → rdOk hp1 V T → rlN hp1 T 225 → z.toInt = (((trL T 225).length : Nat) : Int) → R (.inl (some (.int z))) hp1) : xK (d + 2) 213 [.ref 66] hp R := by
  refine xin (M := am_m213) rfl rfl rfl ?_
  refine xald 1 ⟨u213, _, rfl⟩ rfl rfl ?_
  refine xcall 4 [.ref 66] [] hH ⟨u213, _, rfl⟩ rfl rfl rfl rfl rfl (k_rlst hH hB (fun hp1 hH1 F1 B1 L1 => ⟨_, rfl, ?_⟩))
  refine xald 5 ⟨u213, _, rfl⟩ rfl rfl ?_
  refine xgetI 8 hH1 ⟨u213, _, rfl⟩ rfl rfl (fun z5 h5 => ?_)
  exact xret ⟨u213, _, rfl⟩ rfl (hR _ hp1 hH1 F1 B1 L1 (by rw [h5]; exact L1.1))
end
/-! ##### 19.m.028.28d ##### -/
section
/-! ===== boards copied; loads with what comes of them ===== -/
theorem u2 : bUp 0 am_m2.1 = true := by decide +kernel
section XCP
variable {M : amM} {pc a' d : Nat} {L : List (Option Value)} {hp : amH} {Q : xQ}
theorem xacpy (q N : Nat) {s t : Nat} {i : _} {n dp sp : Int32} (hH : bHk 84 bTT hp) (h : xI M pc (.invokestatic i) a' 6) (e : q = pc + 3) (hs : s < 84) (ht : t < 84) (hTs : bTT s = some (32, N, [.inl (0, 4294967295)])) (hTt : bTT t = some (32, N, [.inl (0, 4294967295)])) (hsp : sp.toInt = 0) (hdp : dp.toInt = 0) (hn : n.toInt = (N : Int))
    (hw : ∀ hp1, bHk 84 bTT hp1 → bFx [t] hp hp1 → (∀ i, i < N → rN hp1 t i = rN hp s i) → xV d M q L [] hp1 Q) : xV d M pc L [.int n, .int dp, .ref t, .int sp, .ref s] hp Q := by
  obtain ⟨ws, h1, h2, h3⟩ := r_row hH hs hTs
  obtain ⟨wt, g1, g2, -⟩ := r_row hH ht hTt
  obtain ⟨k1, k2, k3⟩ := r_set hH hTt (w := ws) g1 h2
  have e1 : sp = 0 := Int32.toInt_inj.mp hsp
  have e2 : dp = 0 := Int32.toInt_inj.mp hdp
  subst e1 e2
  have e3 : n.toNatClampNeg = N := by rw [Int32.toNatClampNeg, hn, Int.toNat_natCast]
  have hcp : (wt.map Value.int).take 0 ++ (((ws.map Value.int).drop 0).take N ++ (wt.map Value.int).drop (0 + N)) = ws.map Value.int := by
    rw [List.take_zero, List.nil_append, List.drop_zero, List.take_of_length_le (by rw [List.length_map]; omega), Nat.zero_add, List.drop_eq_nil_of_le (by rw [List.length_map]; omega), List.append_nil]
  have z0 : (0 : Int32).toNatClampNeg = 0 := by decide
  have hn0 : ¬ n < 0 := fun z => by
    have g := Int32.lt_iff_toInt_lt.mp z
    have z1 : (0 : Int32).toInt = 0 := by decide
    omega
  refine xstep h (fun cl hl => ⟨cl, ?_, hl⟩) (hw _ k1 (fun c k hc => k2 c k ?_) (fun i hi => by rw [k3 i hi, h3 i hi]))
  · subst e
    simp only [amDo, if_true, amCopy, h1, g1, z0, e3, hcp]
    rw [if_pos ⟨trivial, trivial, by decide, by decide, hn0, by rw [List.length_map]; omega, by rw [List.length_map]; omega, by decide⟩]
  · have hc : ¬ t = c := fun z => hc (by rw [z]; simp)
    simp [bIn, show Nat.beq t c = false from by cases e : Nat.beq t c; rfl; exact absurd (Nat.eq_of_beq_eq_true e) hc]
end XCP
/-- a board is copied -/
theorem k_cpB {d : Nat} {hp : amH} {R : xQ} {o o2 V : Nat} {T : sT} (ho : bo o) (ho2 : bo o2) (hne : ¬ o = o2) (hH : bHk 84 bTT hp) (hB : bdOk hp o2 V T) (hR : ∀ hp1, bHk 84 bTT hp1 → bFx [o, o + 1, o + 3] hp hp1 → bdOk hp1 o V T → rN hp1 o 1 = 0 → R (.inl none) hp1) : xK d 2 [.ref o, .ref o2] hp R := by
  have q := b_pts hH ho
  have q2 := b_pts hH ho2
  refine xin (M := am_m2) rfl rfl (by unfold xAv; simp [amOk, bo_lt ho, bo_lt ho2, Value.category]) ?_
  refine xald 1 ⟨u2, _, rfl⟩ rfl rfl ?_
  refine xald 2 ⟨u2, _, rfl⟩ rfl rfl ?_
  refine xgetC 5 hH ⟨u2, _, rfl⟩ rfl (bo_lt ho2) (by decide) (bo_T ho2) rfl (by decide) (fun z2 h2 => ?_)
  refine xputC 8 hH ⟨u2, _, rfl⟩ rfl (bo_lt ho) (by decide) (bo_T ho) rfl (by decide) ⟨rfl, rfl⟩ (by omega) (by omega) (fun hp5 hH5 U5 => ?_)
  refine xald 9 ⟨u2, _, rfl⟩ rfl rfl ?_
  refine xcst 10 (0) ⟨u2, _, rfl⟩ rfl (by decide) (fun z9 h9 => ?_)
  refine xputC 13 hH5 ⟨u2, _, rfl⟩ rfl (bo_lt ho) (by decide) (bo_T ho) rfl (by decide) ⟨rfl, rfl⟩ (by omega) (by omega) (fun hp10 hH10 U10 => ?_)
  refine xald 14 ⟨u2, _, rfl⟩ rfl rfl ?_
  refine xgetD 17 (o2 + 1) hH10 ⟨u2, _, rfl⟩ rfl (bo_lt ho2) (by decide) (bo_T ho2) rfl (by decide) ?_
  refine xcst 18 (0) ⟨u2, _, rfl⟩ rfl (by decide) (fun z17 h17 => ?_)
  refine xald 19 ⟨u2, _, rfl⟩ rfl rfl ?_
  refine xgetD 22 (o + 1) hH10 ⟨u2, _, rfl⟩ rfl (bo_lt ho) (by decide) (bo_T ho) rfl (by decide) ?_
  refine xcst 23 (0) ⟨u2, _, rfl⟩ rfl (by decide) (fun z22 h22 => ?_)
  refine xald 24 ⟨u2, _, rfl⟩ rfl rfl ?_
  refine xgetD 27 (o + 1) hH10 ⟨u2, _, rfl⟩ rfl (bo_lt ho) (by decide) (bo_T ho) rfl (by decide) ?_
  refine xlen 28 hH10 ⟨u2, _, rfl⟩ rfl (bo_lt1 ho) (bo_T1 ho) (by decide) (by decide) (fun z27 h27 => ?_)
  refine xacpy 31 225 hH10 ⟨u2, _, rfl⟩ rfl (bo_lt1 ho2) (bo_lt1 ho) (bo_T1 ho2) (bo_T1 ho) (by omega) (by omega) (by omega) (fun hp28 hH28 F28 E28 => ?_)
  refine xald 32 ⟨u2, _, rfl⟩ rfl rfl ?_
  refine xgetD 35 (o2 + 3) hH28 ⟨u2, _, rfl⟩ rfl (bo_lt ho2) (by decide) (bo_T ho2) rfl (by decide) ?_
  refine xcst 36 (0) ⟨u2, _, rfl⟩ rfl (by decide) (fun z35 h35 => ?_)
  refine xald 37 ⟨u2, _, rfl⟩ rfl rfl ?_
  refine xgetD 40 (o + 3) hH28 ⟨u2, _, rfl⟩ rfl (bo_lt ho) (by decide) (bo_T ho) rfl (by decide) ?_
  refine xcst 41 (0) ⟨u2, _, rfl⟩ rfl (by decide) (fun z40 h40 => ?_)
  refine xald 42 ⟨u2, _, rfl⟩ rfl rfl ?_
  refine xgetD 45 (o + 3) hH28 ⟨u2, _, rfl⟩ rfl (bo_lt ho) (by decide) (bo_T ho) rfl (by decide) ?_
  refine xlen 46 hH28 ⟨u2, _, rfl⟩ rfl (bo_lt3 ho) (bo_T3 ho) (by decide) (by decide) (fun z45 h45 => ?_)
  refine xacpy 49 15 hH28 ⟨u2, _, rfl⟩ rfl (bo_lt3 ho2) (bo_lt3 ho) (bo_T3 ho2) (bo_T3 ho) (by omega) (by omega) (by omega) (fun hp46 hH46 F46 E46 => ?_)
  have u5 := U5.1
  have u10 := U10.1
  have bb : o = 3 ∧ o2 = 8 ∨ o = 8 ∧ o2 = 3 := by omega
  refine xretV ⟨u2, _, rfl⟩ rfl (hR hp46 hH46 ((((bFx_U U5 (by simp)).trans (bFx_U U10 (by simp))).trans (F28.mono (by simp))).trans (F46.mono (by simp))) ⟨?_, hB.2.1, fun u v hu hv => ?_, hB.2.2.2.1, fun p hp => ?_⟩ ?_)
  · rw [bFx_n F46 (by simp), bFx_n F28 (by simp), rU_ne U10 (by omega), u5, h2]
    exact hB.1
  · rw [bFx_n F46 (by simp), E28 _ (by omega), rU_ne U10 (by omega), rU_ne U5 (by omega)]
    exact hB.2.2.1 u v hu hv
  · rw [E46 p hp, bFx_n F28 (by simp; omega), rU_ne U10 (by omega), rU_ne U5 (by omega)]
    exact hB.2.2.2.2 p hp
  · rw [bFx_n F46 (by simp), bFx_n F28 (by simp), u10]
    exact h9
end
/-! ##### 19.m.029.29a ##### -/
section
/-! ===== loads with the systems that come of them: the class ===== -/
def wTy : List (Nat × Nat) := [(13, 0), (13, 1), (13, 2)]
def wFg : List (Nat × Nat) := [(14, 0), (14, 3)]
theorem u92 : bUp 0 am_m92.1 = true := by decide +kernel
theorem u55 : bUp 0 am_m55.1 = true := by decide +kernel
theorem k_tyr {d : Nat} {hp : amH} {R : xQ} (hH : bHk 84 bTT hp) (hR : ∀ hp1, bHk 84 bTT hp1 → bFr wTy hp hp1 → (∀ i, i < 3 → rN hp1 13 i = 0) → R (.inl none) hp1) : xK d 92 [.ref 13] hp R := by
  refine xin (M := am_m92) rfl rfl rfl ?_
  refine xald 1 ⟨u92, _, rfl⟩ rfl rfl ?_
  refine xcst 2 (0) ⟨u92, _, rfl⟩ rfl (by decide) (fun z1 h1 => ?_)
  refine xputC 5 hH ⟨u92, _, rfl⟩ rfl (by decide) (by decide) rfl rfl (by decide) ⟨rfl, rfl⟩ (by omega) (by omega) (fun hp2 hH2 U2 => ?_)
  have s2 := U2.1
  have n2_13_1 : rN hp2 (13) 1 = rN hp (13) 1 := rU_ne U2 (by omega)
  have n2_13_2 : rN hp2 (13) 2 = rN hp (13) 2 := rU_ne U2 (by omega)
  refine xald 6 ⟨u92, _, rfl⟩ rfl rfl ?_
  refine xcst 7 (0) ⟨u92, _, rfl⟩ rfl (by decide) (fun z6 h6 => ?_)
  refine xputC 10 hH2 ⟨u92, _, rfl⟩ rfl (by decide) (by decide) rfl rfl (by decide) ⟨rfl, rfl⟩ (by omega) (by omega) (fun hp7 hH7 U7 => ?_)
  have s7 := U7.1
  have n7_13_0 : rN hp7 (13) 0 = rN hp2 (13) 0 := rU_ne U7 (by omega)
  have n7_13_2 : rN hp7 (13) 2 = rN hp2 (13) 2 := rU_ne U7 (by omega)
  refine xald 11 ⟨u92, _, rfl⟩ rfl rfl ?_
  refine xcst 12 (0) ⟨u92, _, rfl⟩ rfl (by decide) (fun z11 h11 => ?_)
  refine xputC 15 hH7 ⟨u92, _, rfl⟩ rfl (by decide) (by decide) rfl rfl (by decide) ⟨rfl, rfl⟩ (by omega) (by omega) (fun hp12 hH12 U12 => ?_)
  have s12 := U12.1
  have n12_13_0 : rN hp12 (13) 0 = rN hp7 (13) 0 := rU_ne U12 (by omega)
  have n12_13_1 : rN hp12 (13) 1 = rN hp7 (13) 1 := rU_ne U12 (by omega)
  exact xretV ⟨u92, _, rfl⟩ rfl (hR _ hH12 (((rU_fr U2 (by decide)).trans (rU_fr U7 (by decide))).trans (rU_fr U12 (by decide))) (fun i hi => by rcases (by omega : i = 0 ∨ i = 1 ∨ i = 2) with rfl | rfl | rfl <;> omega))
theorem k_fga {d : Nat} {hp : amH} {R : xQ} (hH : bHk 84 bTT hp) (hR : ∀ hp1, bHk 84 bTT hp1 → bFr wFg hp hp1 → rN hp1 14 0 = 0 → rN hp1 14 3 = 0 → R (.inl none) hp1) : xK d 55 [.ref 14] hp R := by
  refine xin (M := am_m55) rfl rfl rfl ?_
  refine xald 1 ⟨u55, _, rfl⟩ rfl rfl ?_
  refine xcst 2 (0) ⟨u55, _, rfl⟩ rfl (by decide) (fun z1 h1 => ?_)
  refine xputC 5 hH ⟨u55, _, rfl⟩ rfl (by decide) (by decide) rfl rfl (by decide) ⟨rfl, rfl⟩ (by omega) (by omega) (fun hp2 hH2 U2 => ?_)
  have s2 := U2.1
  have n2_14_3 : rN hp2 (14) 3 = rN hp (14) 3 := rU_ne U2 (by omega)
  refine xald 6 ⟨u55, _, rfl⟩ rfl rfl ?_
  refine xcst 7 (0) ⟨u55, _, rfl⟩ rfl (by decide) (fun z6 h6 => ?_)
  refine xputC 10 hH2 ⟨u55, _, rfl⟩ rfl (by decide) (by decide) rfl rfl (by decide) (by rw [show z6 = 0 from Int32.toInt_inj.mp h6]; exact ⟨rfl, rfl⟩) (by omega) (by omega) (fun hp7 hH7 U7 => ?_)
  have s7 := U7.1
  have n7_14_0 : rN hp7 (14) 0 = rN hp2 (14) 0 := rU_ne U7 (by omega)
  exact xretV ⟨u55, _, rfl⟩ rfl (hR _ hH7 ((rU_fr U2 (by decide)).trans (rU_fr U7 (by decide))) (by omega) (by omega))
end
/-! ##### 19.m.030.29b ##### -/
section
/-! ===== loads with the systems that come of them: the reference ===== -/
theorem l199z {d : Nat} {hp0 : amH} {R : xQ} {m : Int32} (m0 : 3 ≤ m.toInt) (m1 : m.toInt ≤ 15) (hR : ∀ hp1, bHk 84 bTT hp1 → bFr [(67, 999)] hp0 hp1 → rN hp1 67 0 = m.toInt → hE hp1 → (∀ i, 1 ≤ i → i < 4 → rN hp1 67 i = 0) → R (.inl none) hp1) :
    ∀ (jj : Nat) (k : Int32) (hp : amH), k.toInt + (jj : Int) = 229 → 0 ≤ k.toInt → bHk 84 bTT hp → bFr [(67, 999)] hp0 hp → (∀ i, 4 ≤ i → i < k.toInt.toNat → rN hp 67 i = -1) → (∀ i, 1 ≤ i → i < 4 → i < k.toInt.toNat → rN hp 67 i = 0) → xV d am_m199 2 [some (.ref 66), some (.int m), some (.int k)] [] hp R := by
  intro jj
  induction jj using Nat.strongRecOn with
  | ind jj ih =>
    intro k hp hjj k0 hH hF hM hZ
    refine xild 3 ⟨u199, _, rfl⟩ rfl rfl ?_
    refine xsip 6 (229) ⟨u199, _, rfl⟩ rfl (by decide) (fun z3 h3 => ?_)
    refine xcmp_ge 9 ⟨u199, _, rfl⟩ rfl (fun c6 => ?_) (fun c6 => ?_)
    · refine xald 32 ⟨u199, _, rfl⟩ rfl rfl ?_
      refine xgetR 35 67 hH ⟨u199, _, rfl⟩ rfl rfl ?_
      refine xcst 36 (0) ⟨u199, _, rfl⟩ rfl (by decide) (fun z35 h35 => ?_)
      refine xild 37 ⟨u199, _, rfl⟩ rfl rfl ?_
      refine xiast 38 0 hH ⟨u199, _, rfl⟩ rfl (by decide) rfl (by omega) (by omega) (by omega) (by omega) (fun hp37 hH37 U37 => ?_)
      exact xretV ⟨u199, _, rfl⟩ rfl (hR hp37 hH37 (hF.trans (rU_fr U37 (bIn_all (by decide) _))) U37.1 (fun i g1 g2 => by rw [show rN hp37 67 i = rN hp 67 i from rU_ne U37 (by omega)]; exact hM i g1 (by omega)) (fun i g1 g2 => by rw [show rN hp37 67 i = rN hp 67 i from rU_ne U37 (by omega)]; exact hZ i g1 g2 (by omega)))
    · refine xald 10 ⟨u199, _, rfl⟩ rfl rfl ?_
      refine xgetR 13 67 hH ⟨u199, _, rfl⟩ rfl rfl ?_
      refine xild 14 ⟨u199, _, rfl⟩ rfl rfl ?_
      refine xild 15 ⟨u199, _, rfl⟩ rfl rfl ?_
      refine xcst 16 (4) ⟨u199, _, rfl⟩ rfl (by decide) (fun z15 h15 => ?_)
      refine xcmp_ge 19 ⟨u199, _, rfl⟩ rfl (fun c16 => ?_) (fun c16 => ?_)
      · refine xcst 24 (-1) ⟨u199, _, rfl⟩ rfl (by decide) (fun z23 h23 => ?_)
        refine xiast 25 (k).toInt.toNat hH ⟨u199, _, rfl⟩ rfl (by decide) rfl (by omega) (by omega) (by omega) (by omega) (fun hp24 hH24 U24 => ?_)
        refine xinc 28 (1) ⟨u199, _, rfl⟩ rfl rfl rfl (by decide) (by omega) (by omega) (fun z25 h25 => ?_)
        refine xgoto ⟨u199, _, rfl⟩ ?_
        exact ih (jj - 1) (by omega) _ hp24 (by omega) (by omega) hH24 (hF.trans (rU_fr U24 (bIn_all (by decide) _))) (fun i g1 g2 => by
          by_cases e : i = k.toInt.toNat
          · rw [e, U24.1]; omega
          · rw [show rN hp24 67 i = rN hp 67 i from rU_ne U24 (by omega)]; exact hM i g1 (by omega)) (fun i g1 g2 g3 => by
          by_cases e : i = k.toInt.toNat
          · rw [e, U24.1]; omega
          · rw [show rN hp24 67 i = rN hp 67 i from rU_ne U24 (by omega)]; exact hZ i g1 g2 (by omega))
      · refine xcst 20 (0) ⟨u199, _, rfl⟩ rfl (by decide) (fun z19 h19 => ?_)
        refine xgoto ⟨u199, _, rfl⟩ ?_
        refine xiast 25 (k).toInt.toNat hH ⟨u199, _, rfl⟩ rfl (by decide) rfl (by omega) (by omega) (by omega) (by omega) (fun hp24 hH24 U24 => ?_)
        refine xinc 28 (1) ⟨u199, _, rfl⟩ rfl rfl rfl (by decide) (by omega) (by omega) (fun z25 h25 => ?_)
        refine xgoto ⟨u199, _, rfl⟩ ?_
        exact ih (jj - 1) (by omega) _ hp24 (by omega) (by omega) hH24 (hF.trans (rU_fr U24 (bIn_all (by decide) _))) (fun i g1 g2 => by
          by_cases e : i = k.toInt.toNat
          · rw [e, U24.1]; omega
          · rw [show rN hp24 67 i = rN hp 67 i from rU_ne U24 (by omega)]; exact hM i g1 (by omega)) (fun i g1 g2 g3 => by
          by_cases e : i = k.toInt.toNat
          · rw [e, U24.1]; omega
          · rw [show rN hp24 67 i = rN hp 67 i from rU_ne U24 (by omega)]; exact hZ i g1 g2 (by omega))
theorem k_emz {d : Nat} {hp0 : amH} {R : xQ} {m : Int32} (hH : bHk 84 bTT hp0) (m0 : 3 ≤ m.toInt) (m1 : m.toInt ≤ 15) (hR : ∀ hp1, bHk 84 bTT hp1 → bFr [(67, 999)] hp0 hp1 → rN hp1 67 0 = m.toInt → hE hp1 → (∀ i, 1 ≤ i → i < 4 → rN hp1 67 i = 0) → R (.inl none) hp1) : xK d 199 [.ref 66, .int m] hp0 R := by
  refine xin (M := am_m199) rfl rfl rfl ?_
  refine xcst 1 (0) ⟨u199, _, rfl⟩ rfl (by decide) (fun z0 h0 => ?_)
  refine xist 2 ⟨u199, _, rfl⟩ rfl rfl ?_
  exact l199z m0 m1 hR 229 _ hp0 (by omega) (by omega) hH (bFr.refl _ _) (fun i g1 g2 => absurd g2 (by omega)) (fun i g1 g2 g3 => absurd g3 (by omega))
end
