/-! ===== the class drops a triple ===== -/
theorem k_part {d : Nat} {hp : amH} {R : xQ} {o V x y : Nat} {a b : Int32} (ho : bo o) (hH : bHk 84 bTT hp) (hV : rN hp o 0 = (V : Int)) (ha : a.toInt = (x : Int)) (hb : b.toInt = (y : Int)) (hx : x < V) (hy : y < V) (hxy : ¬ x = y) {m n : Nat} (hm : rN hp (o + 3) x = (m : Int)) (hn : rN hp (o + 3) y = (n : Int)) (hm2 : m < 32768) (hn2 : n < 32768)
    (hR : ∀ hp1, bHk 84 bTT hp1 → bFx [o + 1, o + 3] hp hp1 → (∀ u v, u < 15 → v < 15 → rN hp1 (o + 1) (15 * u + v) = if (u = x ∧ v = y) ∨ (u = y ∧ v = x) then -1 else rN hp (o + 1) (15 * u + v)) → rN hp1 (o + 3) x = ((m ||| 2 ^ y : Nat) : Int) → rN hp1 (o + 3) y = ((n ||| 2 ^ x : Nat) : Int) → (∀ p, ¬ p = x → ¬ p = y → rN hp1 (o + 3) p = rN hp (o + 3) p) → R (.inl none) hp1) : xK (d + 1) 17 [.ref o, .int a, .int b] hp R := by
  have q := b_pts hH ho
  refine xin (M := am_m17) rfl rfl (by unfold xAv; simp [amOk, bo_lt ho, Value.category]) ?_
  refine xald 1 ⟨u17, _, rfl⟩ rfl rfl ?_
  refine xild 2 ⟨u17, _, rfl⟩ rfl rfl ?_
  refine xcallC 5 (o := o) [.int _] [] hH ⟨u17, _, rfl⟩ rfl rfl (bo_lt ho) (bo_T ho) (by decide) rfl ⟨rfl, rfl, rfl, rfl⟩ rfl (k_isp ho hH (fun z2 h2 => ⟨_, rfl, ?_⟩))
  refine xif_eq 8 ⟨u17, _, rfl⟩ rfl (fun c5 => ?_) (fun c5 => ?_)
  · omega
  · refine xald 9 ⟨u17, _, rfl⟩ rfl rfl ?_
    refine xild 10 ⟨u17, _, rfl⟩ rfl rfl ?_
    refine xcallC 13 (o := o) [.int _] [] hH ⟨u17, _, rfl⟩ rfl rfl (bo_lt ho) (bo_T ho) (by decide) rfl ⟨rfl, rfl, rfl, rfl⟩ rfl (k_isp ho hH (fun z10 h10 => ⟨_, rfl, ?_⟩))
    refine xif_eq 16 ⟨u17, _, rfl⟩ rfl (fun c13 => ?_) (fun c13 => ?_)
    · omega
    · refine xald 17 ⟨u17, _, rfl⟩ rfl rfl ?_
      refine xgetD 20 (o + 1) hH ⟨u17, _, rfl⟩ rfl (bo_lt ho) (by decide) (bo_T ho) rfl (by decide) ?_
      refine xild 21 ⟨u17, _, rfl⟩ rfl rfl ?_
      refine xbip 23 (15) ⟨u17, _, rfl⟩ rfl (by decide) (fun z21 h21 => ?_)
      refine xmul 24 (Int32.toInt a * 15) ⟨u17, _, rfl⟩ rfl (by rw [h21]) (by omega) (by omega) (fun z23 h23 => ?_)
      refine xild 25 ⟨u17, _, rfl⟩ rfl rfl ?_
      refine xadd 26 _ ⟨u17, _, rfl⟩ rfl rfl (by omega) (by omega) (fun z25 h25 => ?_)
      refine xcst 27 (-1) ⟨u17, _, rfl⟩ rfl (by decide) (fun z26 h26 => ?_)
      refine xiast 28 (z25).toInt.toNat hH ⟨u17, _, rfl⟩ rfl (bo_lt1 ho) (bo_T1 ho) (by omega) (by omega) (by omega) (by omega) (fun hp27 hH27 U27 => ?_)
      have s27 := U27.1
      refine xald 29 ⟨u17, _, rfl⟩ rfl rfl ?_
      refine xgetD 32 (o + 1) hH27 ⟨u17, _, rfl⟩ rfl (bo_lt ho) (by decide) (bo_T ho) rfl (by decide) ?_
      refine xild 33 ⟨u17, _, rfl⟩ rfl rfl ?_
      refine xbip 35 (15) ⟨u17, _, rfl⟩ rfl (by decide) (fun z33 h33 => ?_)
      refine xmul 36 (Int32.toInt b * 15) ⟨u17, _, rfl⟩ rfl (by rw [h33]) (by omega) (by omega) (fun z35 h35 => ?_)
      refine xild 37 ⟨u17, _, rfl⟩ rfl rfl ?_
      refine xadd 38 _ ⟨u17, _, rfl⟩ rfl rfl (by omega) (by omega) (fun z37 h37 => ?_)
      refine xcst 39 (-1) ⟨u17, _, rfl⟩ rfl (by decide) (fun z38 h38 => ?_)
      refine xiast 40 (z37).toInt.toNat hH27 ⟨u17, _, rfl⟩ rfl (bo_lt1 ho) (bo_T1 ho) (by omega) (by omega) (by omega) (by omega) (fun hp39 hH39 U39 => ?_)
      have s39 := U39.1
      refine xald 41 ⟨u17, _, rfl⟩ rfl rfl ?_
      refine xgetD 44 (o + 3) hH39 ⟨u17, _, rfl⟩ rfl (bo_lt ho) (by decide) (bo_T ho) rfl (by decide) ?_
      refine xild 45 ⟨u17, _, rfl⟩ rfl rfl ?_
      refine xdup2 46 ⟨u17, _, rfl⟩ rfl rfl rfl ?_
      refine xiald 47 (a).toInt.toNat hH39 ⟨u17, _, rfl⟩ rfl (bo_lt3 ho) (bo_T3 ho) (by omega) (by omega) (fun z46 h46 => ?_)
      refine xcst 48 (1) ⟨u17, _, rfl⟩ rfl (by decide) (fun z47 h47 => ?_)
      refine xild 49 ⟨u17, _, rfl⟩ rfl rfl ?_
      refine xshl 50 ⟨u17, _, rfl⟩ rfl ?_
      refine xor_ 51 ⟨u17, _, rfl⟩ rfl ?_
      have h46m : z46.toInt = (m : Int) := by rw [h46, rU_ne U39 (by omega), rU_ne U27 (by omega), show a.toInt.toNat = x by omega]; exact hm
      have w0 := i_shl h47 hb (by omega)
      have w1 := i_or h46m w0.1 hm2 w0.2
      refine xiast 52 (a).toInt.toNat hH39 ⟨u17, _, rfl⟩ rfl (bo_lt3 ho) (bo_T3 ho) (by omega) (by omega) (by omega) (by omega) (fun hp51 hH51 U51 => ?_)
      have s51 := U51.1
      refine xald 53 ⟨u17, _, rfl⟩ rfl rfl ?_
      refine xgetD 56 (o + 3) hH51 ⟨u17, _, rfl⟩ rfl (bo_lt ho) (by decide) (bo_T ho) rfl (by decide) ?_
      refine xild 57 ⟨u17, _, rfl⟩ rfl rfl ?_
      refine xdup2 58 ⟨u17, _, rfl⟩ rfl rfl rfl ?_
      refine xiald 59 (b).toInt.toNat hH51 ⟨u17, _, rfl⟩ rfl (bo_lt3 ho) (bo_T3 ho) (by omega) (by omega) (fun z58 h58 => ?_)
      refine xcst 60 (1) ⟨u17, _, rfl⟩ rfl (by decide) (fun z59 h59 => ?_)
      refine xild 61 ⟨u17, _, rfl⟩ rfl rfl ?_
      refine xshl 62 ⟨u17, _, rfl⟩ rfl ?_
      refine xor_ 63 ⟨u17, _, rfl⟩ rfl ?_
      have h58n : z58.toInt = (n : Int) := by rw [h58, rU_ne U51 (by omega), rU_ne U39 (by omega), rU_ne U27 (by omega), show b.toInt.toNat = y by omega]; exact hn
      have w3 := i_shl h59 ha (by omega)
      have w2 := i_or h58n w3.1 hn2 w3.2
      refine xiast 64 (b).toInt.toNat hH51 ⟨u17, _, rfl⟩ rfl (bo_lt3 ho) (bo_T3 ho) (by omega) (by omega) (by omega) (by omega) (fun hp63 hH63 U63 => ?_)
      have s63 := U63.1
      exact xretV ⟨u17, _, rfl⟩ rfl (hR hp63 hH63 ((((bFx_U U27 (by simp)).trans (bFx_U U39 (by simp))).trans (bFx_U U51 (by simp))).trans (bFx_U U63 (by simp))) (fun u v hu hv => by
          rw [rU_ne U63 (by omega), rU_ne U51 (by omega)]
          by_cases e2 : u = y ∧ v = x
          · obtain ⟨rfl, rfl⟩ := e2
            rw [if_pos (by omega), show 15 * u + v = z37.toInt.toNat by omega]
            exact U39.1.trans h38
          · rw [rU_ne U39 (by omega)]
            by_cases e1 : u = x ∧ v = y
            · obtain ⟨rfl, rfl⟩ := e1
              rw [if_pos (by omega), show 15 * u + v = z25.toInt.toNat by omega]
              exact U27.1.trans h26
            · rw [if_neg (by omega), rU_ne U27 (by omega)]) (by rw [rU_ne U63 (by omega), show x = a.toInt.toNat by omega, U51.1, w1.1]) (by rw [show y = b.toInt.toNat by omega, U63.1, w2.1]) (fun p p1 p2 => by rw [rU_ne U63 (by omega), rU_ne U51 (by omega), rU_ne U39 (by omega), rU_ne U27 (by omega)]))
theorem op_take {V x y z p : Nat} {T : sT} (hV : V ≤ 15) (hx : x < V) (hy : y < V) (hz : z < V) (hxy : ¬ x = y) (hyz : ¬ y = z) (hxz : ¬ x = z) : opN V (sTake T x y z) p = if p = x then opN V T x ||| 2 ^ y ||| 2 ^ z else if p = y then opN V T y ||| 2 ^ x ||| 2 ^ z else if p = z then opN V T z ||| 2 ^ x ||| 2 ^ y else opN V T p := by
  have go : ∀ x y z : Nat, x < V → y < V → z < V → ¬ x = y → ¬ y = z → ¬ x = z → ∀ S : sT, (∀ i, S x i = -1 ↔ (T x i = -1 ∨ i = y ∨ i = z)) → opN V S x = opN V T x ||| 2 ^ y ||| 2 ^ z := by
    intro x y z hx hy hz hxy hyz hxz S hS
    apply Nat.eq_of_testBit_eq
    intro i
    rw [Nat.testBit_or, Nat.testBit_or, op_test hV, op_test hV, p2_test, p2_test]
    have := hS i
    by_cases e1 : i = y
    · subst e1; simp [this, hx, hy, hxy]
    · by_cases e2 : i = z
      · subst e2; simp [this, hx, hz, hxz]
      · simp [this, e1, e2]
  have hS : ∀ p i, ¬ sPr x y z p i → sTake T x y z p i = T p i := fun p i h => by unfold sTake; rw [if_neg h]
  have hS2 : ∀ p i, sPr x y z p i → sTake T x y z p i = -1 := fun p i h => by unfold sTake; rw [if_pos h]
  by_cases e : p = x
  · subst e
    rw [if_pos rfl]
    refine go p y z hx hy hz hxy hyz hxz _ (fun i => ?_)
    by_cases h : sPr p y z p i
    · rw [hS2 _ _ h]
      exact ⟨fun _ => by omega, fun _ => rfl⟩
    · rw [hS _ _ h]
      exact ⟨fun g => Or.inl g, fun g => by rcases g with g | g; exact g; exact absurd ⟨by omega, by omega, by omega⟩ h⟩
  · rw [if_neg e]
    by_cases e : p = y
    · subst e
      rw [if_pos rfl]
      refine go p x z hy hx hz (by omega) hxz hyz _ (fun i => ?_)
      by_cases h : sPr x p z p i
      · rw [hS2 _ _ h]
        exact ⟨fun _ => by omega, fun _ => rfl⟩
      · rw [hS _ _ h]
        exact ⟨fun g => Or.inl g, fun g => by rcases g with g | g; exact g; exact absurd ⟨by omega, by omega, by omega⟩ h⟩
    · rw [if_neg e]
      by_cases e : p = z
      · subst e
        rw [if_pos rfl]
        refine go p x y hz hx hy (by omega) hxy (by omega) _ (fun i => ?_)
        by_cases h : sPr x y p p i
        · rw [hS2 _ _ h]
          exact ⟨fun _ => by omega, fun _ => rfl⟩
        · rw [hS _ _ h]
          exact ⟨fun g => Or.inl g, fun g => by rcases g with g | g; exact g; exact absurd ⟨by omega, by omega, by omega⟩ h⟩
      · rw [if_neg e]
        apply Nat.eq_of_testBit_eq
        intro i
        rw [op_test hV, op_test hV, hS _ _ (by omega)]
theorem k_bdrop {d : Nat} {hp : amH} {R : xQ} {o V x y z : Nat} {T : sT} {s : Int32} (ho : bo o) (hH : bHk 84 bTT hp) (hB : bdOk hp o V T) (hs : s.toInt = ((m3 x y z : Nat) : Int)) (q1 : x < y) (q2 : y < z) (hf : T x y = (z : Int))
    (hR : ∀ hp1, bHk 84 bTT hp1 → bFx [o + 1, o + 3] hp hp1 → bdOk hp1 o V (sTake T x y z) → R (.inl none) hp1) : xK (d + 2) 15 [.ref o, .int s] hp R := by
  obtain ⟨B1, B2, B3, B4, B5⟩ := id hB
  have hV : V ≤ 15 := B2.2.1
  obtain ⟨k, ek, -, -, q3, -⟩ := sOk_at B2 hf (by omega)
  have q3 : z < V := by omega
  obtain ⟨M0, M1, M2⟩ := mem3 q1 q2 (by omega)
  have hm := m3_lt (x := x) (y := y) (z := z) (by omega) (by omega) (by omega)
  have ox := B5 x (by omega)
  have oy := B5 y (by omega)
  have oz := B5 z (by omega)
  have lx := op_lt V T x
  have ly := op_lt V T y
  have lz := op_lt V T z
  have px : 2 ^ x < 2 ^ 15 := Nat.pow_lt_pow_right (by decide) (by omega)
  have py : 2 ^ y < 2 ^ 15 := Nat.pow_lt_pow_right (by decide) (by omega)
  have mx : opN V T x ||| 2 ^ y < 2 ^ 15 := Nat.or_lt_two_pow (by omega) py
  have my : opN V T y ||| 2 ^ x < 2 ^ 15 := Nat.or_lt_two_pow (by omega) px
  have mz : opN V T z ||| 2 ^ x < 2 ^ 15 := Nat.or_lt_two_pow (by omega) px
  refine xin (M := am_m15) rfl rfl (by unfold xAv; simp [amOk, bo_lt ho, Value.category]) ?_
  refine xild 1 ⟨u15, _, rfl⟩ rfl rfl ?_
  refine xcst 2 (0) ⟨u15, _, rfl⟩ rfl (by decide) (fun z1 h1 => ?_)
  refine xcallS 5 [.int _, .int _] [] hH ⟨u15, _, rfl⟩ rfl rfl rfl rfl rfl (k_mem hH hs hm (i := 0) (by omega) (fun z2 h2 => ⟨_, rfl, ?_⟩))
  refine xist 6 ⟨u15, _, rfl⟩ rfl rfl ?_
  refine xild 7 ⟨u15, _, rfl⟩ rfl rfl ?_
  refine xcst 8 (1) ⟨u15, _, rfl⟩ rfl (by decide) (fun z7 h7 => ?_)
  refine xcallS 11 [.int _, .int _] [] hH ⟨u15, _, rfl⟩ rfl rfl rfl rfl rfl (k_mem hH hs hm (i := 1) (by omega) (fun z8 h8 => ⟨_, rfl, ?_⟩))
  refine xist 12 ⟨u15, _, rfl⟩ rfl rfl ?_
  refine xild 13 ⟨u15, _, rfl⟩ rfl rfl ?_
  refine xcst 14 (2) ⟨u15, _, rfl⟩ rfl (by decide) (fun z13 h13 => ?_)
  refine xcallS 17 [.int _, .int _] [] hH ⟨u15, _, rfl⟩ rfl rfl rfl rfl rfl (k_mem hH hs hm (i := 2) (by omega) (fun z14 h14 => ⟨_, rfl, ?_⟩))
  refine xist2 19 ⟨u15, _, rfl⟩ rfl rfl ?_
  refine xald 20 ⟨u15, _, rfl⟩ rfl rfl ?_
  refine xild 21 ⟨u15, _, rfl⟩ rfl rfl ?_
  refine xild 22 ⟨u15, _, rfl⟩ rfl rfl ?_
  refine xcallC 25 (o := o) [.int _, .int _] [] hH ⟨u15, _, rfl⟩ rfl rfl (bo_lt ho) (bo_T ho) (by decide) rfl ⟨rfl, rfl, rfl, rfl⟩ rfl (k_part ho hH (V := V) B1 (x := x) (y := y) (by omega) (by omega) (by omega) (by omega) (by omega) ox oy lx ly (fun hp22 hH22 F22 E22 A22 B22 C22 => ⟨_, rfl, ?_⟩))
  refine xald 26 ⟨u15, _, rfl⟩ rfl rfl ?_
  refine xild 27 ⟨u15, _, rfl⟩ rfl rfl ?_
  refine xild2 29 ⟨u15, _, rfl⟩ rfl rfl ?_
  refine xcallC 32 (o := o) [.int _, .int _] [] hH22 ⟨u15, _, rfl⟩ rfl rfl (bo_lt ho) (bo_T ho) (by decide) rfl ⟨rfl, rfl, rfl, rfl⟩ rfl (k_part ho hH22 (V := V) (by rw [bFx_n F22 (by simp)]; exact B1) (x := x) (y := z) (by omega) (by omega) (by omega) (by omega) (by omega) A22 (by rw [C22 z (by omega) (by omega)]; exact oz) (by omega) lz (fun hp29 hH29 F29 E29 A29 B29 C29 => ⟨_, rfl, ?_⟩))
  refine xald 33 ⟨u15, _, rfl⟩ rfl rfl ?_
  refine xild 34 ⟨u15, _, rfl⟩ rfl rfl ?_
  refine xild2 36 ⟨u15, _, rfl⟩ rfl rfl ?_
  refine xcallC 39 (o := o) [.int _, .int _] [] hH29 ⟨u15, _, rfl⟩ rfl rfl (bo_lt ho) (bo_T ho) (by decide) rfl ⟨rfl, rfl, rfl, rfl⟩ rfl (k_part ho hH29 (V := V) (by rw [bFx_n F29 (by simp), bFx_n F22 (by simp)]; exact B1) (x := y) (y := z) (by omega) (by omega) (by omega) (by omega) (by omega) (by rw [C29 y (by omega) (by omega)]; exact B22) B29 (by omega) (by omega) (fun hp36 hH36 F36 E36 A36 B36 C36 => ⟨_, rfl, ?_⟩))
  have F := (F22.trans F29).trans F36
  have O := fun p => op_take (p := p) (T := T) hV (show x < V by omega) (show y < V by omega) q3 (by omega) (by omega) (by omega)
  exact xretV ⟨u15, _, rfl⟩ rfl (hR hp36 hH36 F ⟨by rw [bFx_n F (by simp)]; exact B1, sOk_take B2 hf, fun u v hu hv => by
      rw [E36 u v hu hv, E29 u v hu hv, E22 u v hu hv, B3 u v hu hv]
      unfold sTake
      by_cases e1 : (u = y ∧ v = z) ∨ (u = z ∧ v = y)
      · rw [if_pos e1, if_pos (by omega)]
      · rw [if_neg e1]
        by_cases e2 : (u = x ∧ v = z) ∨ (u = z ∧ v = x)
        · rw [if_pos e2, if_pos (by omega)]
        · rw [if_neg e2]
          by_cases e3 : (u = x ∧ v = y) ∨ (u = y ∧ v = x)
          · rw [if_pos e3, if_pos (by omega)]
          · rw [if_neg e3, if_neg (by omega)], fun u v h => by
      unfold sTake
      split
      · rfl
      · exact B4 u v h, fun p hp => by
      rw [O p]
      by_cases e1 : p = x
      · subst e1
        rw [if_pos rfl, C36 p (by omega) (by omega)]; exact A29
      · rw [if_neg e1]
        by_cases e2 : p = y
        · subst e2
          rw [if_pos rfl]; exact A36
        · rw [if_neg e2]
          by_cases e3 : p = z
          · subst e3
            rw [if_pos rfl]; exact B36
          · rw [if_neg e3, C36 p e2 e3, C29 p e1 e3, C22 p e1 e2]; exact B5 p hp⟩)
