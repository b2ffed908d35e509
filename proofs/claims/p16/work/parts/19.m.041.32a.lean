/-! ##### 19.m.041.32a ##### -/
section
/-! ===== the class drops a triple ===== -/
theorem k_part {d : Nat} {hp : amH} {R : xQ} {o V x y : Nat} {a b : Int32} (ho : bo o) (hH : bHk 84 bTT hp) (hV : rN hp o 0 = (V : Int)) (ha : a.toInt = (x : Int)) (hb : b.toInt = (y : Int)) (hx : x < V) (hy : y < V) (hxy : ¬ x = y) {m n : Nat} (hm : rN hp (o + 3) x = (m : Int)) (hn : rN hp (o + 3) y = (n : Int)) (hm2 : m < 32768) (hn2 : n < 32768)
    (hR : ∀ hp1, bHk 84 bTT hp1 → bFx [o + 1, o + 3] hp hp1 → (∀ u v, u < 15 → v < 15 → rN hp1 (o + 1) (15 * u + v) = if (u = x ∧ v = y) ∨ (u = y ∧ v = x) then -1 else rN hp (o + 1) (15 * u + v)) → rN hp1 (o + 3) x = ((m ||| 2 ^ y : Nat) : Int) → rN hp1 (o + 3) y = ((n ||| 2 ^ x : Nat) : Int) → (∀ p, ¬ p = x → ¬ p = y → rN hp1 (o + 3) p = rN hp (o + 3) p) → R (.inl none) hp1) : xK (d + 1) 17 [.ref o, .int a, .int b] hp R := by
  have q := b_pts hH ho
  refine xin (M := am_m17) rfl rfl (by unfold xAv; simp [amOk, bo_lt ho, Value.category]) ?_
  refine xald 1 ⟨u17, _, rfl⟩ rfl rfl ?_
  refine xild 2 ⟨u17, _, rfl⟩ rfl rfl ?_
  refine xcallC 5 (o := o) [.int _] [] hH ⟨u17, _, rfl⟩ rfl rfl (bo_lt ho) (bo_T ho) (by decide) rfl ⟨rfl, rfl, rfl, rfl⟩ rfl (k_isp ho hH (fun z2 h2 => ⟨_, rfl, ?_⟩))
  refine xif_eq 8 ⟨u17, _, rfl⟩ rfl (fun c5 => ?_) (fun c5 => ?_)
  · omega
  · refine xald 9 ⟨u17, _, rfl⟩ rfl rfl ?_
    refine xild 10 ⟨u17, _, rfl⟩ rfl rfl ?_
    refine xcallC 13 (o := o) [.int _] [] hH ⟨u17, _, rfl⟩ rfl rfl (bo_lt ho) (bo_T ho) (by decide) rfl ⟨rfl, rfl, rfl, rfl⟩ rfl (k_isp ho hH (fun z10 h10 => ⟨_, rfl, ?_⟩))
    refine xif_eq 16 ⟨u17, _, rfl⟩ rfl (fun c13 => ?_) (fun c13 => ?_)
    · omega
    · refine xald 17 ⟨u17, _, rfl⟩ rfl rfl ?_
      refine xgetD 20 (o + 1) hH ⟨u17, _, rfl⟩ rfl (bo_lt ho) (by decide) (bo_T ho) rfl (by decide) ?_
      refine xild 21 ⟨u17, _, rfl⟩ rfl rfl ?_
      refine xbip 23 (15) ⟨u17, _, rfl⟩ rfl (by decide) (fun z21 h21 => ?_)
      refine xmul 24 (Int32.toInt a * 15) ⟨u17, _, rfl⟩ rfl (by rw [h21]) (by omega) (by omega) (fun z23 h23 => ?_)
      refine xild 25 ⟨u17, _, rfl⟩ rfl rfl ?_
      refine xadd 26 _ ⟨u17, _, rfl⟩ rfl rfl (by omega) (by omega) (fun z25 h25 => ?_)
      refine xcst 27 (-1) ⟨u17, _, rfl⟩ rfl (by decide) (fun z26 h26 => ?_)
      refine xiast 28 (z25).toInt.toNat hH ⟨u17, _, rfl⟩ rfl (bo_lt1 ho) (bo_T1 ho) (by omega) (by omega) (by omega) (by omega) (fun hp27 hH27 U27 => ?_)
      have s27 := U27.1
      refine xald 29 ⟨u17, _, rfl⟩ rfl rfl ?_
      refine xgetD 32 (o + 1) hH27 ⟨u17, _, rfl⟩ rfl (bo_lt ho) (by decide) (bo_T ho) rfl (by decide) ?_
      refine xild 33 ⟨u17, _, rfl⟩ rfl rfl ?_
      refine xbip 35 (15) ⟨u17, _, rfl⟩ rfl (by decide) (fun z33 h33 => ?_)
      refine xmul 36 (Int32.toInt b * 15) ⟨u17, _, rfl⟩ rfl (by rw [h33]) (by omega) (by omega) (fun z35 h35 => ?_)
      refine xild 37 ⟨u17, _, rfl⟩ rfl rfl ?_
      refine xadd 38 _ ⟨u17, _, rfl⟩ rfl rfl (by omega) (by omega) (fun z37 h37 => ?_)
      refine xcst 39 (-1) ⟨u17, _, rfl⟩ rfl (by decide) (fun z38 h38 => ?_)
      refine xiast 40 (z37).toInt.toNat hH27 ⟨u17, _, rfl⟩ rfl (bo_lt1 ho) (bo_T1 ho) (by omega) (by omega) (by omega) (by omega) (fun hp39 hH39 U39 => ?_)
      have s39 := U39.1
      refine xald 41 ⟨u17, _, rfl⟩ rfl rfl ?_
      refine xgetD 44 (o + 3) hH39 ⟨u17, _, rfl⟩ rfl (bo_lt ho) (by decide) (bo_T ho) rfl (by decide) ?_
      refine xild 45 ⟨u17, _, rfl⟩ rfl rfl ?_
      refine xdup2 46 ⟨u17, _, rfl⟩ rfl rfl rfl ?_
      refine xiald 47 (a).toInt.toNat hH39 ⟨u17, _, rfl⟩ rfl (bo_lt3 ho) (bo_T3 ho) (by omega) (by omega) (fun z46 h46 => ?_)
      refine xcst 48 (1) ⟨u17, _, rfl⟩ rfl (by decide) (fun z47 h47 => ?_)
      refine xild 49 ⟨u17, _, rfl⟩ rfl rfl ?_
      refine xshl 50 ⟨u17, _, rfl⟩ rfl ?_
      refine xor_ 51 ⟨u17, _, rfl⟩ rfl ?_
      have h46m : z46.toInt = (m : Int) := by rw [h46, rU_ne U39 (by omega), rU_ne U27 (by omega), show a.toInt.toNat = x by omega]; exact hm
      have w0 := i_shl h47 hb (by omega)
      have w1 := i_or h46m w0.1 hm2 w0.2
      refine xiast 52 (a).toInt.toNat hH39 ⟨u17, _, rfl⟩ rfl (bo_lt3 ho) (bo_T3 ho) (by omega) (by omega) (by omega) (by omega) (fun hp51 hH51 U51 => ?_)
      have s51 := U51.1
      refine xald 53 ⟨u17, _, rfl⟩ rfl rfl ?_
      refine xgetD 56 (o + 3) hH51 ⟨u17, _, rfl⟩ rfl (bo_lt ho) (by decide) (bo_T ho) rfl (by decide) ?_
      refine xild 57 ⟨u17, _, rfl⟩ rfl rfl ?_
      refine xdup2 58 ⟨u17, _, rfl⟩ rfl rfl rfl ?_
      refine xiald 59 (b).toInt.toNat hH51 ⟨u17, _, rfl⟩ rfl (bo_lt3 ho) (bo_T3 ho) (by omega) (by omega) (fun z58 h58 => ?_)
      refine xcst 60 (1) ⟨u17, _, rfl⟩ rfl (by decide) (fun z59 h59 => ?_)
      refine xild 61 ⟨u17, _, rfl⟩ rfl rfl ?_
      refine xshl 62 ⟨u17, _, rfl⟩ rfl ?_
      refine xor_ 63 ⟨u17, _, rfl⟩ rfl ?_
      have h58n : z58.toInt = (n : Int) := by rw [h58, rU_ne U51 (by omega), rU_ne U39 (by omega), rU_ne U27 (by omega), show b.toInt.toNat = y by omega]; exact hn
      have w3 := i_shl h59 ha (by omega)
      have w2 := i_or h58n w3.1 hn2 w3.2
      refine xiast 64 (b).toInt.toNat hH51 ⟨u17, _, rfl⟩ rfl (bo_lt3 ho) (bo_T3 ho) (by omega) (by omega) (by omega) (by omega) (fun hp63 hH63 U63 => ?_)
      have s63 := U63.1
      exact xretV ⟨u17, _, rfl⟩ rfl (hR hp63 hH63 ((((bFx_U U27 (by simp)).trans (bFx_U U39 (by simp))).trans (bFx_U U51 (by simp))).trans (bFx_U U63 (by simp))) (fun u v hu hv => by
          rw [rU_ne U63 (by omega), rU_ne U51 (by omega)]
          by_cases e2 : u = y ∧ v = x
          · obtain ⟨rfl, rfl⟩ := e2
            rw [if_pos (by omega), show 15 * u + v = z37.toInt.toNat by omega]
            exact U39.1.trans h38
          · rw [rU_ne U39 (by omega)]
            by_cases e1 : u = x ∧ v = y
            · obtain ⟨rfl, rfl⟩ := e1
              rw [if_pos (by omega), show 15 * u + v = z25.toInt.toNat by omega]
              exact U27.1.trans h26
            · rw [if_neg (by omega), rU_ne U27 (by omega)]) (by rw [rU_ne U63 (by omega), show x = a.toInt.toNat by omega, U51.1, w1.1]) (by rw [show y = b.toInt.toNat by omega, U63.1, w2.1]) (fun p p1 p2 => by rw [rU_ne U63 (by omega), rU_ne U51 (by omega), rU_ne U39 (by omega), rU_ne U27 (by omega)]))
theorem op_take {V x y z p : Nat} {T : sT} (hV : V ≤ 15) (hx : x < V) (hy : y < V) (hz : z < V) (hxy : ¬ x = y) (hyz : ¬ y = z) (hxz : ¬ x = z) : opN V (sTake T x y z) p = if p = x then opN V T x ||| 2 ^ y ||| 2 ^ z else if p = y then opN V T y ||| 2 ^ x ||| 2 ^ z else if p = z then opN V T z ||| 2 ^ x ||| 2 ^ y else opN V T p := by
  have go : ∀ x y z : Nat, x < V → y < V → z < V → ¬ x = y → ¬ y = z → ¬ x = z → ∀ S : sT, (∀ i, S x i = -1 ↔ (T x i = -1 ∨ i = y ∨ i = z)) → opN V S x = opN V T x ||| 2 ^ y ||| 2 ^ z := by
    intro x y z hx hy hz hxy hyz hxz S hS
    apply Nat.eq_of_testBit_eq
    intro i
    rw [Nat.testBit_or, Nat.testBit_or, op_test hV, op_test hV, p2_test, p2_test]
    have := hS i
    by_cases e1 : i = y
    · subst e1; simp [this, hx, hy, hxy]
    · by_cases e2 : i = z
      · subst e2; simp [this, hx, hz, hxz]
      · simp [this, e1, e2]
  have hS : ∀ p i, ¬ sPr x y z p i → sTake T x y z p i = T p i := fun p i h => by unfold sTake; rw [if_neg h]
  have hS2 : ∀ p i, sPr x y z p i → sTake T x y z p i = -1 := fun p i h => by unfold sTake; rw [if_pos h]
  by_cases e : p = x
  · subst e
    rw [if_pos rfl]
    refine go p y z hx hy hz hxy hyz hxz _ (fun i => ?_)
    by_cases h : sPr p y z p i
    · rw [hS2 _ _ h]
      exact ⟨fun _ => by omega, fun _ => rfl⟩
    · rw [hS _ _ h]
      exact ⟨fun g => Or.inl g, fun g => by rcases g with g | g; exact g; exact absurd ⟨by omega, by omega, by omega⟩ h⟩
  · rw [if_neg e]
    by_cases e : p = y
    · subst e
      rw [if_pos rfl]
      refine go p x z hy hx hz (by omega) hxz hyz _ (fun i => ?_)
      by_cases h : sPr x p z p i
      · rw [hS2 _ _ h]
        exact ⟨fun _ => by omega, fun _ => rfl⟩
      · rw [hS _ _ h]
        exact ⟨fun g => Or.inl g, fun g => by rcases g with g | g; exact g; exact absurd ⟨by omega, by omega, by omega⟩ h⟩
    · rw [if_neg e]
      by_cases e : p = z
      · subst e
        rw [if_pos rfl]
        refine go p x y hz hx hy (by omega) hxy (by omega) _ (fun i => ?_)
        by_cases h : sPr x y p p i
        · rw [hS2 _ _ h]
          exact ⟨fun _ => by omega, fun _ => rfl⟩
        · rw [hS _ _ h]
          exact ⟨fun g => Or.inl g, fun g => by rcases g with g | g; exact g; exact absurd ⟨by omega, by omega, by omega⟩ h⟩
      · rw [if_neg e]
        apply Nat.eq_of_testBit_eq
        intro i
        rw [op_test hV, op_test hV, hS _ _ (by omega)]
theorem k_bdrop {d : Nat} {hp : amH} {R : xQ} {o V x y z : Nat} {T : sT} {s : Int32} (ho : bo o) (hH : bHk 84 bTT hp) (hB : bdOk hp o V T) (hs : s.toInt = ((m3 x y z : Nat) : Int)) (q1 : x < y) (q2 : y < z) (hf : T x y = (z : Int))
    (hR : ∀ hp1, bHk 84 bTT hp1 → bFx [o + 1, o + 3] hp hp1 → bdOk hp1 o V (sTake T x y z) → R (.inl none) hp1) : xK (d + 2) 15 [.ref o, .int s] hp R := by
  obtain ⟨B1, B2, B3, B4, B5⟩ := id hB
  have hV : V ≤ 15 := B2.2.1
  obtain ⟨k, ek, -, -, q3, -⟩ := sOk_at B2 hf (by omega)
  have q3 : z < V := by omega
  obtain ⟨M0, M1, M2⟩ := mem3 q1 q2 (by omega)
  have hm := m3_lt (x := x) (y := y) (z := z) (by omega) (by omega) (by omega)
  have ox := B5 x (by omega)
  have oy := B5 y (by omega)
  have oz := B5 z (by omega)
  have lx := op_lt V T x
  have ly := op_lt V T y
  have lz := op_lt V T z
  have px : 2 ^ x < 2 ^ 15 := Nat.pow_lt_pow_right (by decide) (by omega)
  have py : 2 ^ y < 2 ^ 15 := Nat.pow_lt_pow_right (by decide) (by omega)
  have mx : opN V T x ||| 2 ^ y < 2 ^ 15 := Nat.or_lt_two_pow (by omega) py
  have my : opN V T y ||| 2 ^ x < 2 ^ 15 := Nat.or_lt_two_pow (by omega) px
  have mz : opN V T z ||| 2 ^ x < 2 ^ 15 := Nat.or_lt_two_pow (by omega) px
  refine xin (M := am_m15) rfl rfl (by unfold xAv; simp [amOk, bo_lt ho, Value.category]) ?_
  refine xild 1 ⟨u15, _, rfl⟩ rfl rfl ?_
  refine xcst 2 (0) ⟨u15, _, rfl⟩ rfl (by decide) (fun z1 h1 => ?_)
  refine xcallS 5 [.int _, .int _] [] hH ⟨u15, _, rfl⟩ rfl rfl rfl rfl rfl (k_mem hH hs hm (i := 0) (by omega) (fun z2 h2 => ⟨_, rfl, ?_⟩))
  refine xist 6 ⟨u15, _, rfl⟩ rfl rfl ?_
  refine xild 7 ⟨u15, _, rfl⟩ rfl rfl ?_
  refine xcst 8 (1) ⟨u15, _, rfl⟩ rfl (by decide) (fun z7 h7 => ?_)
  refine xcallS 11 [.int _, .int _] [] hH ⟨u15, _, rfl⟩ rfl rfl rfl rfl rfl (k_mem hH hs hm (i := 1) (by omega) (fun z8 h8 => ⟨_, rfl, ?_⟩))
  refine xist 12 ⟨u15, _, rfl⟩ rfl rfl ?_
  refine xild 13 ⟨u15, _, rfl⟩ rfl rfl ?_
  refine xcst 14 (2) ⟨u15, _, rfl⟩ rfl (by decide) (fun z13 h13 => ?_)
  refine xcallS 17 [.int _, .int _] [] hH ⟨u15, _, rfl⟩ rfl rfl rfl rfl rfl (k_mem hH hs hm (i := 2) (by omega) (fun z14 h14 => ⟨_, rfl, ?_⟩))
  refine xist2 19 ⟨u15, _, rfl⟩ rfl rfl ?_
  refine xald 20 ⟨u15, _, rfl⟩ rfl rfl ?_
  refine xild 21 ⟨u15, _, rfl⟩ rfl rfl ?_
  refine xild 22 ⟨u15, _, rfl⟩ rfl rfl ?_
  refine xcallC 25 (o := o) [.int _, .int _] [] hH ⟨u15, _, rfl⟩ rfl rfl (bo_lt ho) (bo_T ho) (by decide) rfl ⟨rfl, rfl, rfl, rfl⟩ rfl (k_part ho hH (V := V) B1 (x := x) (y := y) (by omega) (by omega) (by omega) (by omega) (by omega) ox oy lx ly (fun hp22 hH22 F22 E22 A22 B22 C22 => ⟨_, rfl, ?_⟩))
  refine xald 26 ⟨u15, _, rfl⟩ rfl rfl ?_
  refine xild 27 ⟨u15, _, rfl⟩ rfl rfl ?_
  refine xild2 29 ⟨u15, _, rfl⟩ rfl rfl ?_
  refine xcallC 32 (o := o) [.int _, .int _] [] hH22 ⟨u15, _, rfl⟩ rfl rfl (bo_lt ho) (bo_T ho) (by decide) rfl ⟨rfl, rfl, rfl, rfl⟩ rfl (k_part ho hH22 (V := V) (by rw [bFx_n F22 (by simp)]; exact B1) (x := x) (y := z) (by omega) (by omega) (by omega) (by omega) (by omega) A22 (by rw [C22 z (by omega) (by omega)]; exact oz) (by omega) lz (fun hp29 hH29 F29 E29 A29 B29 C29 => ⟨_, rfl, ?_⟩))
  refine xald 33 ⟨u15, _, rfl⟩ rfl rfl ?_
  refine xild 34 ⟨u15, _, rfl⟩ rfl rfl ?_
  refine xild2 36 ⟨u15, _, rfl⟩ rfl rfl ?_
  refine xcallC 39 (o := o) [.int _, .int _] [] hH29 ⟨u15, _, rfl⟩ rfl rfl (bo_lt ho) (bo_T ho) (by decide) rfl ⟨rfl, rfl, rfl, rfl⟩ rfl (k_part ho hH29 (V := V) (by rw [bFx_n F29 (by simp), bFx_n F22 (by simp)]; exact B1) (x := y) (y := z) (by omega) (by omega) (by omega) (by omega) (by omega) (by rw [C29 y (by omega) (by omega)]; exact B22) B29 (by omega) (by omega) (fun hp36 hH36 F36 E36 A36 B36 C36 => ⟨_, rfl, ?_⟩))
  have F := (F22.trans F29).trans F36
  have O := fun p => op_take (p := p) (T := T) hV (show x < V by omega) (show y < V by omega) q3 (by omega) (by omega) (by omega)
  exact xretV ⟨u15, _, rfl⟩ rfl (hR hp36 hH36 F ⟨by rw [bFx_n F (by simp)]; exact B1, sOk_take B2 hf, fun u v hu hv => by
      rw [E36 u v hu hv, E29 u v hu hv, E22 u v hu hv, B3 u v hu hv]
      unfold sTake
      by_cases e1 : (u = y ∧ v = z) ∨ (u = z ∧ v = y)
      · rw [if_pos e1, if_pos (by omega)]
      · rw [if_neg e1]
        by_cases e2 : (u = x ∧ v = z) ∨ (u = z ∧ v = x)
        · rw [if_pos e2, if_pos (by omega)]
        · rw [if_neg e2]
          by_cases e3 : (u = x ∧ v = y) ∨ (u = y ∧ v = x)
          · rw [if_pos e3, if_pos (by omega)]
          · rw [if_neg e3, if_neg (by omega)], fun u v h => by
      unfold sTake
      split
      · rfl
      · exact B4 u v h, fun p hp => by
      rw [O p]
      by_cases e1 : p = x
      · subst e1
        rw [if_pos rfl, C36 p (by omega) (by omega)]; exact A29
      · rw [if_neg e1]
        by_cases e2 : p = y
        · subst e2
          rw [if_pos rfl]; exact A36
        · rw [if_neg e2]
          by_cases e3 : p = z
          · subst e3
            rw [if_pos rfl]; exact B36
          · rw [if_neg e3, C36 p e2 e3, C29 p e1 e3, C22 p e1 e2]; exact B5 p hp⟩)
end
/-! ##### 19.m.042.32b ##### -/
section
/-! ===== what calls require, on both sides ===== -/
section XT
variable {M : amM} {pc a b d : Nat} {L : List (Option Value)} {st : List Value} {hp : amH} {Q : xQ}
theorem xthr {E : Nat} {i : _} (h : xI M pc (.new i) E b) (hb : ¬ b = 0) (hm : M.2.2.2.2.2.1 = []) (hs : (st.map fun v => v.category).sum ≤ 8) (hQ : Q (.inr E) hp) : xV d M pc L st hp Q := by
  intro cl hl
  obtain ⟨hu, r, hr2⟩ := h
  rw [hr2]
  refine bWp_thr (q := (pc, .new i, E, b)) ?_ hQ
  simp only [amDo]
  rw [if_neg hb, if_pos ⟨hs, hm⟩]
theorem xcallT (q : Nat) {k o t n : Nat} {ys : List bY} {j : _} {N : amM} (av rest : List Value) {st : List Value} (hH : bHk 84 bTT hp) (h : xI M pc (.invokevirtual j) k 0) (e : q = pc + 3) (hst : st = (Value.ref o :: av).reverse ++ rest) (ho : o < 84) (hT : bTT o = some (t, n, ys)) (h32 : t < 32) (hN : amGG k = some N)
    (hc : N.2.2.1 = av.length + 1 ∧ N.2.2.2.2.2.2 = t ∧ Nat.ble (((Value.ref o :: av).reverse.map fun v => v.category).sum) N.2.1 = true ∧ Nat.ble ((rest.map fun v => v.category).sum) 8 = true) (hr : amOkS 84 rest = true)
    (hk : xK d k (.ref o :: av) hp (fun y hp1 => (∃ v, y = .inl v ∧ xV (d + 1) M q L (v.toList ++ rest) hp1 Q) ∨ (∃ E, y = .inr E ∧ M.2.2.2.2.2.1 = [] ∧ Q (.inr E) hp1))) : xV (d + 1) M pc L st hp Q := by
  intro cl hl
  obtain ⟨hu, r, hr2⟩ := h
  obtain ⟨N', hN', hw⟩ := hk
  rw [hN] at hN'
  cases hN'
  rw [hr2]
  obtain ⟨c1, c2, c3, c4⟩ := hc
  have c3 := Nat.le_of_ble_eq_true c3
  have c4 := Nat.le_of_ble_eq_true c4
  have hlen : (Value.ref o :: av).reverse.length = N.2.2.1 := by rw [List.length_reverse, c1]; rfl
  have t1 : st.take N.2.2.1 = (Value.ref o :: av).reverse := by rw [hst, ← hlen, List.take_left]
  have t2 : st.drop N.2.2.1 = rest := by rw [hst, ← hlen, List.drop_left]
  have hrec : amRecv 0 N.2.2.2.2.2.2 hp (.ref o :: av) = true := by
    obtain ⟨⟨t3, vs⟩, g1, g2, -, -⟩ := bHk_at hH ho hT
    have g2 : t3 = t := g2
    subst g2
    unfold amRecv
    dsimp only
    rw [if_pos rfl, g1, c2]
    exact decide_eq_true ⟨rfl, h32⟩
  have hcall : amCall amGG 0 k cl st hp = some (.inr (.inr (.inr (k, .ref o :: av, rest)))) := by
    unfold amCall
    rw [hN]
    dsimp only
    rw [t1, t2, List.reverse_reverse, if_pos]
    refine ⟨by rw [hst, List.length_append]; omega, c3, ?_, c4⟩
    rw [hH.1, hl.1, hr, hrec]
    rfl
  have hdo : amDo amGG M none (.invokevirtual j) k 0 pc cl st hp = some (.inr (.inr (.inr (k, .ref o :: av, rest)))) := by
    simp only [amDo]
    rw [if_neg (by decide), if_neg (by decide)]
    exact hcall
  refine bWp_call (q := (pc, .invokevirtual j, k, 0)) hdo hN (bWp_mono hw (fun y hp1 hy => ?_))
  rcases hy with ⟨v, rfl, hy⟩ | ⟨E, rfl, h1, h2⟩
  · dsimp only
    rw [bUp_next hu (xI_suf hr2), ← e]
    exact hy cl hl
  · exact ⟨rfl, h1, h2⟩
end XT
def gPt (V : Nat) (a : Int) : Int := if 0 ≤ a ∧ a < (V : Int) then 0 else 1
def gTwo (V : Nat) (a b : Int) : Int := if 0 ≤ a ∧ a < (V : Int) ∧ 0 ≤ b ∧ b < (V : Int) then (if a = b then 2 else 0) else 1
def gSet (V : Nat) (a b c : Int) : Int := if 0 ≤ a ∧ a < (V : Int) ∧ 0 ≤ b ∧ b < (V : Int) ∧ 0 ≤ c ∧ c < (V : Int) then (if a = b ∨ b = c ∨ a = c then 2 else 0) else 1
def gTri (n : Nat) (t : Int) : Int := if 0 ≤ t ∧ t < (n : Int) then 0 else 1
theorem gPt_0 {V : Nat} {a : Int} : gPt V a = 0 ↔ 0 ≤ a ∧ a < (V : Int) := by
  unfold gPt
  split <;> omega
theorem gTwo_0 {V : Nat} {a b : Int} : gTwo V a b = 0 ↔ 0 ≤ a ∧ a < (V : Int) ∧ 0 ≤ b ∧ b < (V : Int) ∧ ¬ a = b := by
  unfold gTwo
  split
  · split <;> omega
  · omega
theorem gSet_0 {V : Nat} {a b c : Int} : gSet V a b c = 0 ↔ 0 ≤ a ∧ a < (V : Int) ∧ 0 ≤ b ∧ b < (V : Int) ∧ 0 ≤ c ∧ c < (V : Int) ∧ ¬ a = b ∧ ¬ b = c ∧ ¬ a = c := by
  unfold gSet
  split
  · split <;> omega
  · omega
theorem gTri_0 {n : Nat} {t : Int} : gTri n t = 0 ↔ 0 ≤ t ∧ t < (n : Int) := by
  unfold gTri
  split <;> omega
theorem u176 : bUp 0 am_m176.1 = true := by decide +kernel
theorem u177 : bUp 0 am_m177.1 = true := by decide +kernel
theorem u178 : bUp 0 am_m178.1 = true := by decide +kernel
theorem u179 : bUp 0 am_m179.1 = true := by decide +kernel
theorem k_rq1 {d V : Nat} {hp : amH} {R : xQ} {a : Int32} (hH : bHk 84 bTT hp) (hV : rN hp 3 0 = (V : Int)) (h0 : gPt V a.toInt = 0 → R (.inl none) hp) (h1 : gPt V a.toInt = 1 → R (.inr 1) hp) : xK (d + 1) 176 [.ref 0, .int a] hp R := by
  refine xin (M := am_m176) rfl rfl rfl ?_
  refine xald 1 ⟨u176, _, rfl⟩ rfl rfl ?_
  refine xgetD 4 (3) hH ⟨u176, _, rfl⟩ rfl (by decide) (by decide) rfl rfl (by decide) ?_
  refine xild 5 ⟨u176, _, rfl⟩ rfl rfl ?_
  refine xcallC 8 (o := 3) [.int _] [] hH ⟨u176, _, rfl⟩ rfl rfl (by decide) rfl (by decide) rfl ⟨rfl, rfl, rfl, rfl⟩ rfl (k_isp (o := 3) (Or.inl rfl) hH (fun z5 h5 => ⟨_, rfl, ?_⟩))
  refine xif_ne 11 ⟨u176, _, rfl⟩ rfl (fun c8 => ?_) (fun c8 => ?_)
  · exact xretV ⟨u176, _, rfl⟩ rfl (h0 (gPt_0.mpr (by omega)))
  · exact xthr ⟨u176, _, rfl⟩ (by decide) rfl (by decide) (h1 (by unfold gPt; rw [if_neg (by omega)]))
theorem k_rq2 {d V : Nat} {hp : amH} {R : xQ} {a b : Int32} (hH : bHk 84 bTT hp) (hV : rN hp 3 0 = (V : Int)) (h0 : gTwo V a.toInt b.toInt = 0 → R (.inl none) hp) (h1 : gTwo V a.toInt b.toInt = 1 → R (.inr 1) hp) (h2 : gTwo V a.toInt b.toInt = 2 → R (.inr 0) hp) : xK (d + 2) 177 [.ref 0, .int a, .int b] hp R := by
  refine xin (M := am_m177) rfl rfl rfl ?_
  refine xald 1 ⟨u177, _, rfl⟩ rfl rfl ?_
  refine xild 2 ⟨u177, _, rfl⟩ rfl rfl ?_
  refine xcallT 5 (o := 0) [.int _] [] hH ⟨u177, _, rfl⟩ rfl rfl (by decide) rfl (by decide) rfl ⟨rfl, rfl, rfl, rfl⟩ rfl (k_rq1 hH hV (fun g2 => Or.inl ⟨_, rfl, ?_⟩) (fun g2 => Or.inr ⟨_, rfl, rfl, h1 (by unfold gTwo; rw [if_neg (fun z => by have := gPt_0.mpr ⟨z.1, z.2.1⟩; omega)])⟩))
  have k2 := gPt_0.mp g2
  refine xald 6 ⟨u177, _, rfl⟩ rfl rfl ?_
  refine xild 7 ⟨u177, _, rfl⟩ rfl rfl ?_
  refine xcallT 10 (o := 0) [.int _] [] hH ⟨u177, _, rfl⟩ rfl rfl (by decide) rfl (by decide) rfl ⟨rfl, rfl, rfl, rfl⟩ rfl (k_rq1 hH hV (fun g7 => Or.inl ⟨_, rfl, ?_⟩) (fun g7 => Or.inr ⟨_, rfl, rfl, h1 (by unfold gTwo; rw [if_neg (fun z => by have := gPt_0.mpr ⟨z.2.2.1, z.2.2.2⟩; omega)])⟩))
  have k7 := gPt_0.mp g7
  refine xild 11 ⟨u177, _, rfl⟩ rfl rfl ?_
  refine xild 12 ⟨u177, _, rfl⟩ rfl rfl ?_
  refine xcmp_ne 15 ⟨u177, _, rfl⟩ rfl (fun c12 => ?_) (fun c12 => ?_)
  · exact xretV ⟨u177, _, rfl⟩ rfl (h0 (gTwo_0.mpr (by omega)))
  · exact xthr ⟨u177, _, rfl⟩ (by decide) rfl (by decide) (h2 (by unfold gTwo; rw [if_pos (by omega), if_pos (by omega)]))
theorem k_rq3 {d V : Nat} {hp : amH} {R : xQ} {a b c : Int32} (hH : bHk 84 bTT hp) (hV : rN hp 3 0 = (V : Int)) (h0 : gSet V a.toInt b.toInt c.toInt = 0 → R (.inl none) hp) (h1 : gSet V a.toInt b.toInt c.toInt = 1 → R (.inr 1) hp) (h2 : gSet V a.toInt b.toInt c.toInt = 2 → R (.inr 0) hp) : xK (d + 2) 178 [.ref 0, .int a, .int b, .int c] hp R := by
  refine xin (M := am_m178) rfl rfl rfl ?_
  refine xald 1 ⟨u178, _, rfl⟩ rfl rfl ?_
  refine xild 2 ⟨u178, _, rfl⟩ rfl rfl ?_
  refine xcallT 5 (o := 0) [.int _] [] hH ⟨u178, _, rfl⟩ rfl rfl (by decide) rfl (by decide) rfl ⟨rfl, rfl, rfl, rfl⟩ rfl (k_rq1 hH hV (fun g2 => Or.inl ⟨_, rfl, ?_⟩) (fun g2 => Or.inr ⟨_, rfl, rfl, h1 (by unfold gSet; rw [if_neg (fun z => by have := gPt_0.mpr ⟨z.1, z.2.1⟩; omega)])⟩))
  have k2 := gPt_0.mp g2
  refine xald 6 ⟨u178, _, rfl⟩ rfl rfl ?_
  refine xild 7 ⟨u178, _, rfl⟩ rfl rfl ?_
  refine xcallT 10 (o := 0) [.int _] [] hH ⟨u178, _, rfl⟩ rfl rfl (by decide) rfl (by decide) rfl ⟨rfl, rfl, rfl, rfl⟩ rfl (k_rq1 hH hV (fun g7 => Or.inl ⟨_, rfl, ?_⟩) (fun g7 => Or.inr ⟨_, rfl, rfl, h1 (by unfold gSet; rw [if_neg (fun z => by have := gPt_0.mpr ⟨z.2.2.1, z.2.2.2.1⟩; omega)])⟩))
  have k7 := gPt_0.mp g7
  refine xald 11 ⟨u178, _, rfl⟩ rfl rfl ?_
  refine xild 12 ⟨u178, _, rfl⟩ rfl rfl ?_
  refine xcallT 15 (o := 0) [.int _] [] hH ⟨u178, _, rfl⟩ rfl rfl (by decide) rfl (by decide) rfl ⟨rfl, rfl, rfl, rfl⟩ rfl (k_rq1 hH hV (fun g12 => Or.inl ⟨_, rfl, ?_⟩) (fun g12 => Or.inr ⟨_, rfl, rfl, h1 (by unfold gSet; rw [if_neg (fun z => by have := gPt_0.mpr ⟨z.2.2.2.2.1, z.2.2.2.2.2⟩; omega)])⟩))
  have k12 := gPt_0.mp g12
  refine xild 16 ⟨u178, _, rfl⟩ rfl rfl ?_
  refine xild 17 ⟨u178, _, rfl⟩ rfl rfl ?_
  refine xcmp_eq 20 ⟨u178, _, rfl⟩ rfl (fun c17 => ?_) (fun c17 => ?_)
  · exact xthr ⟨u178, _, rfl⟩ (by decide) rfl (by decide) (h2 (by unfold gSet; rw [if_pos (by omega), if_pos (by omega)]))
  · refine xild 21 ⟨u178, _, rfl⟩ rfl rfl ?_
    refine xild 22 ⟨u178, _, rfl⟩ rfl rfl ?_
    refine xcmp_eq 25 ⟨u178, _, rfl⟩ rfl (fun c22 => ?_) (fun c22 => ?_)
    · exact xthr ⟨u178, _, rfl⟩ (by decide) rfl (by decide) (h2 (by unfold gSet; rw [if_pos (by omega), if_pos (by omega)]))
    · refine xild 26 ⟨u178, _, rfl⟩ rfl rfl ?_
      refine xild 27 ⟨u178, _, rfl⟩ rfl rfl ?_
      refine xcmp_ne 30 ⟨u178, _, rfl⟩ rfl (fun c27 => ?_) (fun c27 => ?_)
      · exact xretV ⟨u178, _, rfl⟩ rfl (h0 (gSet_0.mpr (by omega)))
      · exact xthr ⟨u178, _, rfl⟩ (by decide) rfl (by decide) (h2 (by unfold gSet; rw [if_pos (by omega), if_pos (by omega)]))
theorem k_rqt {d n : Nat} {hp : amH} {R : xQ} {t : Int32} (hH : bHk 84 bTT hp) (hn : rN hp 3 1 = (n : Int)) (h0 : gTri n t.toInt = 0 → R (.inl none) hp) (h1 : gTri n t.toInt = 1 → R (.inr 1) hp) : xK d 179 [.ref 0, .int t] hp R := by
  refine xin (M := am_m179) rfl rfl rfl ?_
  refine xild 1 ⟨u179, _, rfl⟩ rfl rfl ?_
  refine xif_lt 4 ⟨u179, _, rfl⟩ rfl (fun c1 => ?_) (fun c1 => ?_)
  · exact xthr ⟨u179, _, rfl⟩ (by decide) rfl (by decide) (h1 (by unfold gTri; rw [if_neg (by omega)]))
  · refine xild 5 ⟨u179, _, rfl⟩ rfl rfl ?_
    refine xald 6 ⟨u179, _, rfl⟩ rfl rfl ?_
    refine xgetD 9 (3) hH ⟨u179, _, rfl⟩ rfl (by decide) (by decide) rfl rfl (by decide) ?_
    refine xgetC 12 hH ⟨u179, _, rfl⟩ rfl (by decide) (by decide) rfl rfl (by decide) (fun z9 h9 => ?_)
    refine xcmp_lt 15 ⟨u179, _, rfl⟩ rfl (fun c12 => ?_) (fun c12 => ?_)
    · exact xretV ⟨u179, _, rfl⟩ rfl (h0 (gTri_0.mpr (by omega)))
    · exact xthr ⟨u179, _, rfl⟩ (by decide) rfl (by decide) (h1 (by unfold gTri; rw [if_neg (by omega)]))
theorem k_gp1 {d V : Nat} {hp : amH} {R : xQ} {p : Int32} (hH : bHk 84 bTT hp) (hV : rN hp 67 0 = (V : Int)) (h15 : V ≤ 15)
    (hR : ∀ (z : Int32) hp1, bHk 84 bTT hp1 → bFr [(66, 7)] hp hp1 → rN hp1 66 7 = gPt V p.toInt → ((gPt V p.toInt = 0 ∧ z.toInt = 0) ∨ (gPt V p.toInt = 1 ∧ z.toInt = 1)) → R (.inl (some (.int z))) hp1) : xK (d + 1) 254 [.ref 66, .int p] hp R := by
  refine xin (M := am_m254) rfl rfl rfl ?_
  refine xald 1 ⟨u254, _, rfl⟩ rfl rfl ?_
  refine xcst 2 (0) ⟨u254, _, rfl⟩ rfl (by decide) (fun z1 h1 => ?_)
  refine xputI 5 hH ⟨u254, _, rfl⟩ rfl rfl ⟨rfl, rfl⟩ (by omega) (by omega) (fun hp2 hH2 U2 => ?_)
  have s2 := U2.1
  have n2_67_0 : rN hp2 (67) 0 = rN hp (67) 0 := rU_ne U2 (by omega)
  refine xald 6 ⟨u254, _, rfl⟩ rfl rfl ?_
  refine xild 7 ⟨u254, _, rfl⟩ rfl rfl ?_
  refine xcst 8 (0) ⟨u254, _, rfl⟩ rfl (by decide) (fun z7 h7 => ?_)
  refine xald 9 ⟨u254, _, rfl⟩ rfl rfl ?_
  refine xcall 12 [.ref 66] [.int _, .int _, .ref 66] hH2 ⟨u254, _, rfl⟩ rfl rfl rfl rfl rfl (k_points hH2 (fun z9 h9 => ⟨_, rfl, ?_⟩))
  refine xcst 13 (1) ⟨u254, _, rfl⟩ rfl (by decide) (fun z12 h12 => ?_)
  refine xsub 14 _ ⟨u254, _, rfl⟩ rfl rfl (by omega) (by omega) (fun z13 h13 => ?_)
  refine xcallS 17 [.int _, .int _, .int _] [.ref 66] hH2 ⟨u254, _, rfl⟩ rfl rfl rfl rfl rfl (k_inr (fun z14 h14 => ⟨_, rfl, ?_⟩))
  refine xif_ne 20 ⟨u254, _, rfl⟩ rfl (fun c17 => ?_) (fun c17 => ?_)
  · refine xcst 25 (0) ⟨u254, _, rfl⟩ rfl (by decide) (fun z24 h24 => ?_)
    refine xcst 26 (1) ⟨u254, _, rfl⟩ rfl (by decide) (fun z25 h25 => ?_)
    refine xcall 29 [.ref 66, .int _, .int _] [] hH2 ⟨u254, _, rfl⟩ rfl rfl rfl rfl rfl (k_failsE hH2 (by omega) (fun hp26 hH26 V26 => ⟨_, rfl, ?_⟩))
    rcases V26 with ⟨a, e⟩ | ⟨a, U⟩
    · first
      | omega
      | (subst e
         have g : gPt V p.toInt = 0 := gPt_0.mpr (by omega)
         exact xretB ⟨u254, _, rfl⟩ rfl (by omega) (hR _ _ hH26 (rU_fr U2 rfl) (by rw [g, U2.1]; exact h1) (Or.inl ⟨g, a⟩)))
    · first
      | omega
      | (have g : gPt V p.toInt = 1 := by unfold gPt; rw [if_neg (by omega)]
         exact xretB ⟨u254, _, rfl⟩ rfl (by omega) (hR _ _ hH26 ((rU_fr U2 rfl).trans (rU_fr U rfl)) (by rw [g, U.1]; exact h25) (Or.inr ⟨g, a⟩)))
  · refine xcst 21 (1) ⟨u254, _, rfl⟩ rfl (by decide) (fun z20 h20 => ?_)
    refine xgoto ⟨u254, _, rfl⟩ ?_
    refine xcst 26 (1) ⟨u254, _, rfl⟩ rfl (by decide) (fun z25 h25 => ?_)
    refine xcall 29 [.ref 66, .int _, .int _] [] hH2 ⟨u254, _, rfl⟩ rfl rfl rfl rfl rfl (k_failsE hH2 (by omega) (fun hp26 hH26 V26 => ⟨_, rfl, ?_⟩))
    rcases V26 with ⟨a, e⟩ | ⟨a, U⟩
    · first
      | omega
      | (subst e
         have g : gPt V p.toInt = 0 := gPt_0.mpr (by omega)
         exact xretB ⟨u254, _, rfl⟩ rfl (by omega) (hR _ _ hH26 (rU_fr U2 rfl) (by rw [g, U2.1]; exact h1) (Or.inl ⟨g, a⟩)))
    · first
      | omega
      | (have g : gPt V p.toInt = 1 := by unfold gPt; rw [if_neg (by omega)]
         exact xretB ⟨u254, _, rfl⟩ rfl (by omega) (hR _ _ hH26 ((rU_fr U2 rfl).trans (rU_fr U rfl)) (by rw [g, U.1]; exact h25) (Or.inr ⟨g, a⟩)))
theorem k_gp2 {d V : Nat} {hp : amH} {R : xQ} {a b : Int32} (hH : bHk 84 bTT hp) (hV : rN hp 67 0 = (V : Int)) (h15 : V ≤ 15)
    (hR : ∀ (z : Int32) hp1, bHk 84 bTT hp1 → bFr [(66, 7)] hp hp1 → rN hp1 66 7 = gTwo V a.toInt b.toInt → ((gTwo V a.toInt b.toInt = 0 ∧ z.toInt = 0) ∨ (¬ gTwo V a.toInt b.toInt = 0 ∧ z.toInt = 1)) → R (.inl (some (.int z))) hp1) : xK (d + 2) 255 [.ref 66, .int a, .int b] hp R := by
  refine xin (M := am_m255) rfl rfl rfl ?_
  refine xald 1 ⟨u255, _, rfl⟩ rfl rfl ?_
  refine xild 2 ⟨u255, _, rfl⟩ rfl rfl ?_
  refine xcall 5 [.ref 66, .int _] [] hH ⟨u255, _, rfl⟩ rfl rfl rfl rfl rfl (k_gp1 hH (V := V) hV h15 (fun z2 hp2 hH2 f2 t2 o2 => ⟨_, rfl, ?_⟩))
  have F2 : bFr [(66, 7)] hp hp2 := f2
  refine xif_ne 8 ⟨u255, _, rfl⟩ rfl (fun c5 => ?_) (fun c5 => ?_)
  · refine xcst 35 (1) ⟨u255, _, rfl⟩ rfl (by decide) (fun z34 h34 => ?_)
    refine xgoto ⟨u255, _, rfl⟩ ?_
    have g : gTwo V a.toInt b.toInt = 1 := by unfold gTwo; rw [if_neg (fun z => by have : gPt V a.toInt = 0 := gPt_0.mpr ⟨z.1, z.2.1⟩; omega)]
    exact xretB ⟨u255, _, rfl⟩ rfl (by omega) (hR _ _ hH2 F2 (by rw [g]; omega) (Or.inr ⟨by omega, by omega⟩))
  · refine xald 9 ⟨u255, _, rfl⟩ rfl rfl ?_
    refine xild 10 ⟨u255, _, rfl⟩ rfl rfl ?_
    refine xcall 13 [.ref 66, .int _] [] hH2 ⟨u255, _, rfl⟩ rfl rfl rfl rfl rfl (k_gp1 hH2 (V := V) (by rw [r_fr F2 rfl]; exact hV) h15 (fun z10 hp10 hH10 f10 t10 o10 => ⟨_, rfl, ?_⟩))
    have F10 : bFr [(66, 7)] hp hp10 := F2.trans f10
    refine xif_ne 16 ⟨u255, _, rfl⟩ rfl (fun c13 => ?_) (fun c13 => ?_)
    · refine xcst 35 (1) ⟨u255, _, rfl⟩ rfl (by decide) (fun z34 h34 => ?_)
      refine xgoto ⟨u255, _, rfl⟩ ?_
      have g : gTwo V a.toInt b.toInt = 1 := by unfold gTwo; rw [if_neg (fun z => by have : gPt V b.toInt = 0 := gPt_0.mpr ⟨z.2.2.1, z.2.2.2⟩; omega)]
      exact xretB ⟨u255, _, rfl⟩ rfl (by omega) (hR _ _ hH10 F10 (by rw [g]; omega) (Or.inr ⟨by omega, by omega⟩))
    · refine xald 17 ⟨u255, _, rfl⟩ rfl rfl ?_
      refine xild 18 ⟨u255, _, rfl⟩ rfl rfl ?_
      refine xild 19 ⟨u255, _, rfl⟩ rfl rfl ?_
      refine xcmp_ne 22 ⟨u255, _, rfl⟩ rfl (fun c19 => ?_) (fun c19 => ?_)
      · refine xcst 27 (0) ⟨u255, _, rfl⟩ rfl (by decide) (fun z26 h26 => ?_)
        refine xcst 28 (2) ⟨u255, _, rfl⟩ rfl (by decide) (fun z27 h27 => ?_)
        refine xcall 31 [.ref 66, .int _, .int _] [] hH10 ⟨u255, _, rfl⟩ rfl rfl rfl rfl rfl (k_failsE hH10 (by omega) (fun hp28 hH28 V28 => ⟨_, rfl, ?_⟩))
        refine xif_eq 34 ⟨u255, _, rfl⟩ rfl (fun c31 => ?_) (fun c31 => ?_)
        · refine xcst 39 (0) ⟨u255, _, rfl⟩ rfl (by decide) (fun z38 h38 => ?_)
          rcases V28 with ⟨a9, e⟩ | ⟨a9, U⟩
          · first
            | (exfalso; omega)
            | (subst e
               have k2 := gPt_0.mp (show gPt V a.toInt = 0 by omega)
               have k10 := gPt_0.mp (show gPt V b.toInt = 0 by omega)
               have g : gTwo V a.toInt b.toInt = 0 := gTwo_0.mpr (by omega)
               exact xretB ⟨u255, _, rfl⟩ rfl (by omega) (hR _ _ hH28 F10 (by rw [g]; omega) (Or.inl ⟨g, by omega⟩)))
          · first
            | (exfalso; omega)
            | (
               have k2 := gPt_0.mp (show gPt V a.toInt = 0 by omega)
               have k10 := gPt_0.mp (show gPt V b.toInt = 0 by omega)
               have g : gTwo V a.toInt b.toInt = 2 := by unfold gTwo; rw [if_pos (by omega), if_pos (by omega)]
               exact xretB ⟨u255, _, rfl⟩ rfl (by omega) (hR _ _ hH28 (F10.trans (rU_fr U rfl)) (by rw [g, U.1]; omega) (Or.inr ⟨by omega, by omega⟩)))
        · refine xcst 35 (1) ⟨u255, _, rfl⟩ rfl (by decide) (fun z34 h34 => ?_)
          refine xgoto ⟨u255, _, rfl⟩ ?_
          rcases V28 with ⟨a9, e⟩ | ⟨a9, U⟩
          · first
            | (exfalso; omega)
            | (subst e
               have k2 := gPt_0.mp (show gPt V a.toInt = 0 by omega)
               have k10 := gPt_0.mp (show gPt V b.toInt = 0 by omega)
               have g : gTwo V a.toInt b.toInt = 0 := gTwo_0.mpr (by omega)
               exact xretB ⟨u255, _, rfl⟩ rfl (by omega) (hR _ _ hH28 F10 (by rw [g]; omega) (Or.inl ⟨g, by omega⟩)))
          · first
            | (exfalso; omega)
            | (
               have k2 := gPt_0.mp (show gPt V a.toInt = 0 by omega)
               have k10 := gPt_0.mp (show gPt V b.toInt = 0 by omega)
               have g : gTwo V a.toInt b.toInt = 2 := by unfold gTwo; rw [if_pos (by omega), if_pos (by omega)]
               exact xretB ⟨u255, _, rfl⟩ rfl (by omega) (hR _ _ hH28 (F10.trans (rU_fr U rfl)) (by rw [g, U.1]; omega) (Or.inr ⟨by omega, by omega⟩)))
      · refine xcst 23 (1) ⟨u255, _, rfl⟩ rfl (by decide) (fun z22 h22 => ?_)
        refine xgoto ⟨u255, _, rfl⟩ ?_
        refine xcst 28 (2) ⟨u255, _, rfl⟩ rfl (by decide) (fun z27 h27 => ?_)
        refine xcall 31 [.ref 66, .int _, .int _] [] hH10 ⟨u255, _, rfl⟩ rfl rfl rfl rfl rfl (k_failsE hH10 (by omega) (fun hp28 hH28 V28 => ⟨_, rfl, ?_⟩))
        refine xif_eq 34 ⟨u255, _, rfl⟩ rfl (fun c31 => ?_) (fun c31 => ?_)
        · refine xcst 39 (0) ⟨u255, _, rfl⟩ rfl (by decide) (fun z38 h38 => ?_)
          rcases V28 with ⟨a9, e⟩ | ⟨a9, U⟩
          · first
            | (exfalso; omega)
            | (subst e
               have k2 := gPt_0.mp (show gPt V a.toInt = 0 by omega)
               have k10 := gPt_0.mp (show gPt V b.toInt = 0 by omega)
               have g : gTwo V a.toInt b.toInt = 0 := gTwo_0.mpr (by omega)
               exact xretB ⟨u255, _, rfl⟩ rfl (by omega) (hR _ _ hH28 F10 (by rw [g]; omega) (Or.inl ⟨g, by omega⟩)))
          · first
            | (exfalso; omega)
            | (
               have k2 := gPt_0.mp (show gPt V a.toInt = 0 by omega)
               have k10 := gPt_0.mp (show gPt V b.toInt = 0 by omega)
               have g : gTwo V a.toInt b.toInt = 2 := by unfold gTwo; rw [if_pos (by omega), if_pos (by omega)]
               exact xretB ⟨u255, _, rfl⟩ rfl (by omega) (hR _ _ hH28 (F10.trans (rU_fr U rfl)) (by rw [g, U.1]; omega) (Or.inr ⟨by omega, by omega⟩)))
        · refine xcst 35 (1) ⟨u255, _, rfl⟩ rfl (by decide) (fun z34 h34 => ?_)
          refine xgoto ⟨u255, _, rfl⟩ ?_
          rcases V28 with ⟨a9, e⟩ | ⟨a9, U⟩
          · first
            | (exfalso; omega)
            | (subst e
               have k2 := gPt_0.mp (show gPt V a.toInt = 0 by omega)
               have k10 := gPt_0.mp (show gPt V b.toInt = 0 by omega)
               have g : gTwo V a.toInt b.toInt = 0 := gTwo_0.mpr (by omega)
               exact xretB ⟨u255, _, rfl⟩ rfl (by omega) (hR _ _ hH28 F10 (by rw [g]; omega) (Or.inl ⟨g, by omega⟩)))
          · first
            | (exfalso; omega)
            | (
               have k2 := gPt_0.mp (show gPt V a.toInt = 0 by omega)
               have k10 := gPt_0.mp (show gPt V b.toInt = 0 by omega)
               have g : gTwo V a.toInt b.toInt = 2 := by unfold gTwo; rw [if_pos (by omega), if_pos (by omega)]
               exact xretB ⟨u255, _, rfl⟩ rfl (by omega) (hR _ _ hH28 (F10.trans (rU_fr U rfl)) (by rw [g, U.1]; omega) (Or.inr ⟨by omega, by omega⟩)))
theorem k_gp3 {d V : Nat} {hp : amH} {R : xQ} {a b c : Int32} (hH : bHk 84 bTT hp) (hV : rN hp 67 0 = (V : Int)) (h15 : V ≤ 15)
    (hR : ∀ (z : Int32) hp1, bHk 84 bTT hp1 → bFr [(66, 7)] hp hp1 → rN hp1 66 7 = gSet V a.toInt b.toInt c.toInt → ((gSet V a.toInt b.toInt c.toInt = 0 ∧ z.toInt = 0) ∨ (¬ gSet V a.toInt b.toInt c.toInt = 0 ∧ z.toInt = 1)) → R (.inl (some (.int z))) hp1) : xK (d + 2) 256 [.ref 66, .int a, .int b, .int c] hp R := by
  refine xin (M := am_m256) rfl rfl rfl ?_
  refine xald 1 ⟨u256, _, rfl⟩ rfl rfl ?_
  refine xild 2 ⟨u256, _, rfl⟩ rfl rfl ?_
  refine xcall 5 [.ref 66, .int _] [] hH ⟨u256, _, rfl⟩ rfl rfl rfl rfl rfl (k_gp1 hH (V := V) hV h15 (fun z2 hp2 hH2 f2 t2 o2 => ⟨_, rfl, ?_⟩))
  have F2 : bFr [(66, 7)] hp hp2 := f2
  refine xif_ne 8 ⟨u256, _, rfl⟩ rfl (fun c5 => ?_) (fun c5 => ?_)
  · refine xcst 53 (1) ⟨u256, _, rfl⟩ rfl (by decide) (fun z52 h52 => ?_)
    refine xgoto ⟨u256, _, rfl⟩ ?_
    have g : gSet V a.toInt b.toInt c.toInt = 1 := by unfold gSet; rw [if_neg (fun z => by have : gPt V a.toInt = 0 := gPt_0.mpr ⟨z.1, z.2.1⟩; omega)]
    exact xretB ⟨u256, _, rfl⟩ rfl (by omega) (hR _ _ hH2 F2 (by rw [g]; omega) (Or.inr ⟨by omega, by omega⟩))
  · refine xald 9 ⟨u256, _, rfl⟩ rfl rfl ?_
    refine xild 10 ⟨u256, _, rfl⟩ rfl rfl ?_
    refine xcall 13 [.ref 66, .int _] [] hH2 ⟨u256, _, rfl⟩ rfl rfl rfl rfl rfl (k_gp1 hH2 (V := V) (by rw [r_fr F2 rfl]; exact hV) h15 (fun z10 hp10 hH10 f10 t10 o10 => ⟨_, rfl, ?_⟩))
    have F10 : bFr [(66, 7)] hp hp10 := F2.trans f10
    refine xif_ne 16 ⟨u256, _, rfl⟩ rfl (fun c13 => ?_) (fun c13 => ?_)
    · refine xcst 53 (1) ⟨u256, _, rfl⟩ rfl (by decide) (fun z52 h52 => ?_)
      refine xgoto ⟨u256, _, rfl⟩ ?_
      have g : gSet V a.toInt b.toInt c.toInt = 1 := by unfold gSet; rw [if_neg (fun z => by have : gPt V b.toInt = 0 := gPt_0.mpr ⟨z.2.2.1, z.2.2.2.1⟩; omega)]
      exact xretB ⟨u256, _, rfl⟩ rfl (by omega) (hR _ _ hH10 F10 (by rw [g]; omega) (Or.inr ⟨by omega, by omega⟩))
    · refine xald 17 ⟨u256, _, rfl⟩ rfl rfl ?_
      refine xild 18 ⟨u256, _, rfl⟩ rfl rfl ?_
      refine xcall 21 [.ref 66, .int _] [] hH10 ⟨u256, _, rfl⟩ rfl rfl rfl rfl rfl (k_gp1 hH10 (V := V) (by rw [r_fr F10 rfl]; exact hV) h15 (fun z18 hp18 hH18 f18 t18 o18 => ⟨_, rfl, ?_⟩))
      have F18 : bFr [(66, 7)] hp hp18 := F10.trans f18
      refine xif_ne 24 ⟨u256, _, rfl⟩ rfl (fun c21 => ?_) (fun c21 => ?_)
      · refine xcst 53 (1) ⟨u256, _, rfl⟩ rfl (by decide) (fun z52 h52 => ?_)
        refine xgoto ⟨u256, _, rfl⟩ ?_
        have g : gSet V a.toInt b.toInt c.toInt = 1 := by unfold gSet; rw [if_neg (fun z => by have : gPt V c.toInt = 0 := gPt_0.mpr ⟨z.2.2.2.2.1, z.2.2.2.2.2⟩; omega)]
        exact xretB ⟨u256, _, rfl⟩ rfl (by omega) (hR _ _ hH18 F18 (by rw [g]; omega) (Or.inr ⟨by omega, by omega⟩))
      · refine xald 25 ⟨u256, _, rfl⟩ rfl rfl ?_
        refine xild 26 ⟨u256, _, rfl⟩ rfl rfl ?_
        refine xild 27 ⟨u256, _, rfl⟩ rfl rfl ?_
        refine xcmp_eq 30 ⟨u256, _, rfl⟩ rfl (fun c27 => ?_) (fun c27 => ?_)
        · refine xcst 41 (1) ⟨u256, _, rfl⟩ rfl (by decide) (fun z40 h40 => ?_)
          refine xgoto ⟨u256, _, rfl⟩ ?_
          refine xcst 46 (2) ⟨u256, _, rfl⟩ rfl (by decide) (fun z45 h45 => ?_)
          refine xcall 49 [.ref 66, .int _, .int _] [] hH18 ⟨u256, _, rfl⟩ rfl rfl rfl rfl rfl (k_failsE hH18 (by omega) (fun hp46 hH46 V46 => ⟨_, rfl, ?_⟩))
          refine xif_eq 52 ⟨u256, _, rfl⟩ rfl (fun c49 => ?_) (fun c49 => ?_)
          · refine xcst 57 (0) ⟨u256, _, rfl⟩ rfl (by decide) (fun z56 h56 => ?_)
            rcases V46 with ⟨a9, e⟩ | ⟨a9, U⟩
            · first
              | (exfalso; omega)
              | (subst e
                 have k2 := gPt_0.mp (show gPt V a.toInt = 0 by omega)
                 have k10 := gPt_0.mp (show gPt V b.toInt = 0 by omega)
                 have k18 := gPt_0.mp (show gPt V c.toInt = 0 by omega)
                 have g : gSet V a.toInt b.toInt c.toInt = 0 := gSet_0.mpr (by omega)
                 exact xretB ⟨u256, _, rfl⟩ rfl (by omega) (hR _ _ hH46 F18 (by rw [g]; omega) (Or.inl ⟨g, by omega⟩)))
            · first
              | (exfalso; omega)
              | (
                 have k2 := gPt_0.mp (show gPt V a.toInt = 0 by omega)
                 have k10 := gPt_0.mp (show gPt V b.toInt = 0 by omega)
                 have k18 := gPt_0.mp (show gPt V c.toInt = 0 by omega)
                 have g : gSet V a.toInt b.toInt c.toInt = 2 := by unfold gSet; rw [if_pos (by omega), if_pos (by omega)]
                 exact xretB ⟨u256, _, rfl⟩ rfl (by omega) (hR _ _ hH46 (F18.trans (rU_fr U rfl)) (by rw [g, U.1]; omega) (Or.inr ⟨by omega, by omega⟩)))
          · refine xcst 53 (1) ⟨u256, _, rfl⟩ rfl (by decide) (fun z52 h52 => ?_)
            refine xgoto ⟨u256, _, rfl⟩ ?_
            rcases V46 with ⟨a9, e⟩ | ⟨a9, U⟩
            · first
              | (exfalso; omega)
              | (subst e
                 have k2 := gPt_0.mp (show gPt V a.toInt = 0 by omega)
                 have k10 := gPt_0.mp (show gPt V b.toInt = 0 by omega)
                 have k18 := gPt_0.mp (show gPt V c.toInt = 0 by omega)
                 have g : gSet V a.toInt b.toInt c.toInt = 0 := gSet_0.mpr (by omega)
                 exact xretB ⟨u256, _, rfl⟩ rfl (by omega) (hR _ _ hH46 F18 (by rw [g]; omega) (Or.inl ⟨g, by omega⟩)))
            · first
              | (exfalso; omega)
              | (
                 have k2 := gPt_0.mp (show gPt V a.toInt = 0 by omega)
                 have k10 := gPt_0.mp (show gPt V b.toInt = 0 by omega)
                 have k18 := gPt_0.mp (show gPt V c.toInt = 0 by omega)
                 have g : gSet V a.toInt b.toInt c.toInt = 2 := by unfold gSet; rw [if_pos (by omega), if_pos (by omega)]
                 exact xretB ⟨u256, _, rfl⟩ rfl (by omega) (hR _ _ hH46 (F18.trans (rU_fr U rfl)) (by rw [g, U.1]; omega) (Or.inr ⟨by omega, by omega⟩)))
        · refine xild 31 ⟨u256, _, rfl⟩ rfl rfl ?_
          refine xild 32 ⟨u256, _, rfl⟩ rfl rfl ?_
          refine xcmp_eq 35 ⟨u256, _, rfl⟩ rfl (fun c32 => ?_) (fun c32 => ?_)
          · refine xcst 41 (1) ⟨u256, _, rfl⟩ rfl (by decide) (fun z40 h40 => ?_)
            refine xgoto ⟨u256, _, rfl⟩ ?_
            refine xcst 46 (2) ⟨u256, _, rfl⟩ rfl (by decide) (fun z45 h45 => ?_)
            refine xcall 49 [.ref 66, .int _, .int _] [] hH18 ⟨u256, _, rfl⟩ rfl rfl rfl rfl rfl (k_failsE hH18 (by omega) (fun hp46 hH46 V46 => ⟨_, rfl, ?_⟩))
            refine xif_eq 52 ⟨u256, _, rfl⟩ rfl (fun c49 => ?_) (fun c49 => ?_)
            · refine xcst 57 (0) ⟨u256, _, rfl⟩ rfl (by decide) (fun z56 h56 => ?_)
              rcases V46 with ⟨a9, e⟩ | ⟨a9, U⟩
              · first
                | (exfalso; omega)
                | (subst e
                   have k2 := gPt_0.mp (show gPt V a.toInt = 0 by omega)
                   have k10 := gPt_0.mp (show gPt V b.toInt = 0 by omega)
                   have k18 := gPt_0.mp (show gPt V c.toInt = 0 by omega)
                   have g : gSet V a.toInt b.toInt c.toInt = 0 := gSet_0.mpr (by omega)
                   exact xretB ⟨u256, _, rfl⟩ rfl (by omega) (hR _ _ hH46 F18 (by rw [g]; omega) (Or.inl ⟨g, by omega⟩)))
              · first
                | (exfalso; omega)
                | (
                   have k2 := gPt_0.mp (show gPt V a.toInt = 0 by omega)
                   have k10 := gPt_0.mp (show gPt V b.toInt = 0 by omega)
                   have k18 := gPt_0.mp (show gPt V c.toInt = 0 by omega)
                   have g : gSet V a.toInt b.toInt c.toInt = 2 := by unfold gSet; rw [if_pos (by omega), if_pos (by omega)]
                   exact xretB ⟨u256, _, rfl⟩ rfl (by omega) (hR _ _ hH46 (F18.trans (rU_fr U rfl)) (by rw [g, U.1]; omega) (Or.inr ⟨by omega, by omega⟩)))
            · refine xcst 53 (1) ⟨u256, _, rfl⟩ rfl (by decide) (fun z52 h52 => ?_)
              refine xgoto ⟨u256, _, rfl⟩ ?_
              rcases V46 with ⟨a9, e⟩ | ⟨a9, U⟩
              · first
                | (exfalso; omega)
                | (subst e
                   have k2 := gPt_0.mp (show gPt V a.toInt = 0 by omega)
                   have k10 := gPt_0.mp (show gPt V b.toInt = 0 by omega)
                   have k18 := gPt_0.mp (show gPt V c.toInt = 0 by omega)
                   have g : gSet V a.toInt b.toInt c.toInt = 0 := gSet_0.mpr (by omega)
                   exact xretB ⟨u256, _, rfl⟩ rfl (by omega) (hR _ _ hH46 F18 (by rw [g]; omega) (Or.inl ⟨g, by omega⟩)))
              · first
                | (exfalso; omega)
                | (
                   have k2 := gPt_0.mp (show gPt V a.toInt = 0 by omega)
                   have k10 := gPt_0.mp (show gPt V b.toInt = 0 by omega)
                   have k18 := gPt_0.mp (show gPt V c.toInt = 0 by omega)
                   have g : gSet V a.toInt b.toInt c.toInt = 2 := by unfold gSet; rw [if_pos (by omega), if_pos (by omega)]
                   exact xretB ⟨u256, _, rfl⟩ rfl (by omega) (hR _ _ hH46 (F18.trans (rU_fr U rfl)) (by rw [g, U.1]; omega) (Or.inr ⟨by omega, by omega⟩)))
          · refine xild 36 ⟨u256, _, rfl⟩ rfl rfl ?_
            refine xild 37 ⟨u256, _, rfl⟩ rfl rfl ?_
            refine xcmp_ne 40 ⟨u256, _, rfl⟩ rfl (fun c37 => ?_) (fun c37 => ?_)
            · refine xcst 45 (0) ⟨u256, _, rfl⟩ rfl (by decide) (fun z44 h44 => ?_)
              refine xcst 46 (2) ⟨u256, _, rfl⟩ rfl (by decide) (fun z45 h45 => ?_)
              refine xcall 49 [.ref 66, .int _, .int _] [] hH18 ⟨u256, _, rfl⟩ rfl rfl rfl rfl rfl (k_failsE hH18 (by omega) (fun hp46 hH46 V46 => ⟨_, rfl, ?_⟩))
              refine xif_eq 52 ⟨u256, _, rfl⟩ rfl (fun c49 => ?_) (fun c49 => ?_)
              · refine xcst 57 (0) ⟨u256, _, rfl⟩ rfl (by decide) (fun z56 h56 => ?_)
                rcases V46 with ⟨a9, e⟩ | ⟨a9, U⟩
                · first
                  | (exfalso; omega)
                  | (subst e
                     have k2 := gPt_0.mp (show gPt V a.toInt = 0 by omega)
                     have k10 := gPt_0.mp (show gPt V b.toInt = 0 by omega)
                     have k18 := gPt_0.mp (show gPt V c.toInt = 0 by omega)
                     have g : gSet V a.toInt b.toInt c.toInt = 0 := gSet_0.mpr (by omega)
                     exact xretB ⟨u256, _, rfl⟩ rfl (by omega) (hR _ _ hH46 F18 (by rw [g]; omega) (Or.inl ⟨g, by omega⟩)))
                · first
                  | (exfalso; omega)
                  | (
                     have k2 := gPt_0.mp (show gPt V a.toInt = 0 by omega)
                     have k10 := gPt_0.mp (show gPt V b.toInt = 0 by omega)
                     have k18 := gPt_0.mp (show gPt V c.toInt = 0 by omega)
                     have g : gSet V a.toInt b.toInt c.toInt = 2 := by unfold gSet; rw [if_pos (by omega), if_pos (by omega)]
                     exact xretB ⟨u256, _, rfl⟩ rfl (by omega) (hR _ _ hH46 (F18.trans (rU_fr U rfl)) (by rw [g, U.1]; omega) (Or.inr ⟨by omega, by omega⟩)))
              · refine xcst 53 (1) ⟨u256, _, rfl⟩ rfl (by decide) (fun z52 h52 => ?_)
                refine xgoto ⟨u256, _, rfl⟩ ?_
                rcases V46 with ⟨a9, e⟩ | ⟨a9, U⟩
                · first
                  | (exfalso; omega)
                  | (subst e
                     have k2 := gPt_0.mp (show gPt V a.toInt = 0 by omega)
                     have k10 := gPt_0.mp (show gPt V b.toInt = 0 by omega)
                     have k18 := gPt_0.mp (show gPt V c.toInt = 0 by omega)
                     have g : gSet V a.toInt b.toInt c.toInt = 0 := gSet_0.mpr (by omega)
                     exact xretB ⟨u256, _, rfl⟩ rfl (by omega) (hR _ _ hH46 F18 (by rw [g]; omega) (Or.inl ⟨g, by omega⟩)))
                · first
                  | (exfalso; omega)
                  | (
                     have k2 := gPt_0.mp (show gPt V a.toInt = 0 by omega)
                     have k10 := gPt_0.mp (show gPt V b.toInt = 0 by omega)
                     have k18 := gPt_0.mp (show gPt V c.toInt = 0 by omega)
                     have g : gSet V a.toInt b.toInt c.toInt = 2 := by unfold gSet; rw [if_pos (by omega), if_pos (by omega)]
                     exact xretB ⟨u256, _, rfl⟩ rfl (by omega) (hR _ _ hH46 (F18.trans (rU_fr U rfl)) (by rw [g, U.1]; omega) (Or.inr ⟨by omega, by omega⟩)))
            · refine xcst 41 (1) ⟨u256, _, rfl⟩ rfl (by decide) (fun z40 h40 => ?_)
              refine xgoto ⟨u256, _, rfl⟩ ?_
              refine xcst 46 (2) ⟨u256, _, rfl⟩ rfl (by decide) (fun z45 h45 => ?_)
              refine xcall 49 [.ref 66, .int _, .int _] [] hH18 ⟨u256, _, rfl⟩ rfl rfl rfl rfl rfl (k_failsE hH18 (by omega) (fun hp46 hH46 V46 => ⟨_, rfl, ?_⟩))
              refine xif_eq 52 ⟨u256, _, rfl⟩ rfl (fun c49 => ?_) (fun c49 => ?_)
              · refine xcst 57 (0) ⟨u256, _, rfl⟩ rfl (by decide) (fun z56 h56 => ?_)
                rcases V46 with ⟨a9, e⟩ | ⟨a9, U⟩
                · first
                  | (exfalso; omega)
                  | (subst e
                     have k2 := gPt_0.mp (show gPt V a.toInt = 0 by omega)
                     have k10 := gPt_0.mp (show gPt V b.toInt = 0 by omega)
                     have k18 := gPt_0.mp (show gPt V c.toInt = 0 by omega)
                     have g : gSet V a.toInt b.toInt c.toInt = 0 := gSet_0.mpr (by omega)
                     exact xretB ⟨u256, _, rfl⟩ rfl (by omega) (hR _ _ hH46 F18 (by rw [g]; omega) (Or.inl ⟨g, by omega⟩)))
                · first
                  | (exfalso; omega)
                  | (
                     have k2 := gPt_0.mp (show gPt V a.toInt = 0 by omega)
                     have k10 := gPt_0.mp (show gPt V b.toInt = 0 by omega)
                     have k18 := gPt_0.mp (show gPt V c.toInt = 0 by omega)
                     have g : gSet V a.toInt b.toInt c.toInt = 2 := by unfold gSet; rw [if_pos (by omega), if_pos (by omega)]
                     exact xretB ⟨u256, _, rfl⟩ rfl (by omega) (hR _ _ hH46 (F18.trans (rU_fr U rfl)) (by rw [g, U.1]; omega) (Or.inr ⟨by omega, by omega⟩)))
              · refine xcst 53 (1) ⟨u256, _, rfl⟩ rfl (by decide) (fun z52 h52 => ?_)
                refine xgoto ⟨u256, _, rfl⟩ ?_
                rcases V46 with ⟨a9, e⟩ | ⟨a9, U⟩
                · first
                  | (exfalso; omega)
                  | (subst e
                     have k2 := gPt_0.mp (show gPt V a.toInt = 0 by omega)
                     have k10 := gPt_0.mp (show gPt V b.toInt = 0 by omega)
                     have k18 := gPt_0.mp (show gPt V c.toInt = 0 by omega)
                     have g : gSet V a.toInt b.toInt c.toInt = 0 := gSet_0.mpr (by omega)
                     exact xretB ⟨u256, _, rfl⟩ rfl (by omega) (hR _ _ hH46 F18 (by rw [g]; omega) (Or.inl ⟨g, by omega⟩)))
                · first
                  | (exfalso; omega)
                  | (
                     have k2 := gPt_0.mp (show gPt V a.toInt = 0 by omega)
                     have k10 := gPt_0.mp (show gPt V b.toInt = 0 by omega)
                     have k18 := gPt_0.mp (show gPt V c.toInt = 0 by omega)
                     have g : gSet V a.toInt b.toInt c.toInt = 2 := by unfold gSet; rw [if_pos (by omega), if_pos (by omega)]
                     exact xretB ⟨u256, _, rfl⟩ rfl (by omega) (hR _ _ hH46 (F18.trans (rU_fr U rfl)) (by rw [g, U.1]; omega) (Or.inr ⟨by omega, by omega⟩)))
end
