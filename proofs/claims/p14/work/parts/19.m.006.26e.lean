/-! ##### 19.m.006.26e ##### -/
section
/-! ===== the class's boards ===== -/
theorem u1 : bUp 0 am_m1.1 = true := by decide +kernel
theorem u3 : bUp 0 am_m3.1 = true := by decide +kernel
theorem u4 : bUp 0 am_m4.1 = true := by decide +kernel
theorem u7 : bUp 0 am_m7.1 = true := by decide +kernel
theorem u8 : bUp 0 am_m8.1 = true := by decide +kernel
theorem u13 : bUp 0 am_m13.1 = true := by decide +kernel
theorem u14 : bUp 0 am_m14.1 = true := by decide +kernel
theorem u15 : bUp 0 am_m15.1 = true := by decide +kernel
theorem u16 : bUp 0 am_m16.1 = true := by decide +kernel
theorem u17 : bUp 0 am_m17.1 = true := by decide +kernel
theorem u20 : bUp 0 am_m20.1 = true := by decide +kernel
theorem u19 : bUp 0 am_m19.1 = true := by decide +kernel
theorem u18 : bUp 0 am_m18.1 = true := by decide +kernel
theorem u21 : bUp 0 am_m21.1 = true := by decide +kernel
abbrev bo (o : Nat) : Prop := o = 3 ∨ o = 8
theorem bo_T {o : Nat} (ho : bo o) : bTT o = some (0, 6, [.inl (2147483648, 2147483663), .inl (2147483648, 2147483683), .inr (.inr [o + 1]), .inr (.inr [o + 2]), .inr (.inr [o + 3]), .inr (.inr [o + 4])]) := by rcases ho with rfl | rfl <;> rfl
theorem bo_T1 {o : Nat} (ho : bo o) : bTT (o + 1) = some (32, 225, [.inl (0, 4294967295)]) := by rcases ho with rfl | rfl <;> rfl
theorem bo_T2 {o : Nat} (ho : bo o) : bTT (o + 2) = some (32, 225, [.inl (0, 4294967295)]) := by rcases ho with rfl | rfl <;> rfl
theorem bo_T3 {o : Nat} (ho : bo o) : bTT (o + 3) = some (32, 15, [.inl (0, 4294967295)]) := by rcases ho with rfl | rfl <;> rfl
theorem bo_T4 {o : Nat} (ho : bo o) : bTT (o + 4) = some (32, 35, [.inl (0, 4294967295)]) := by rcases ho with rfl | rfl <;> rfl
theorem bo_lt {o : Nat} (ho : bo o) : o < 84 := by omega
theorem bo_lt1 {o : Nat} (ho : bo o) : o + 1 < 84 := by omega
theorem bo_lt2 {o : Nat} (ho : bo o) : o + 2 < 84 := by omega
theorem bo_lt3 {o : Nat} (ho : bo o) : o + 3 < 84 := by omega
theorem bo_lt4 {o : Nat} (ho : bo o) : o + 4 < 84 := by omega
/-- a set as a mask -/
noncomputable def bitsOf (P : Nat → Bool) : Nat → Nat
  | 0 => 0
  | n + 1 => if P n = true then bitsOf P n ||| 2 ^ n else bitsOf P n
theorem bits_test (P : Nat → Bool) (i : Nat) : ∀ n, (bitsOf P n).testBit i = (decide (i < n) && P i)
  | 0 => by simp [bitsOf]
  | n + 1 => by
    have ih := bits_test P i n
    unfold bitsOf
    by_cases e : i = n
    · subst e
      cases h : P i
      · simp [h, ih]
      · simp [h, Nat.testBit_or, ih, Nat.testBit_two_pow_self]
    · have e2 : (decide (i < n + 1)) = decide (i < n) := by
        rw [decide_eq_decide]; omega
      split
      · rw [Nat.testBit_or, ih, Nat.testBit_two_pow_of_ne (fun z => e z.symm), e2, Bool.or_false]
      · rw [ih, e2]
theorem bits_lt (P : Nat → Bool) : ∀ n, bitsOf P n < 2 ^ n
  | 0 => by simp [bitsOf]
  | n + 1 => by
    have ih := bits_lt P n
    unfold bitsOf
    have h2 : 2 ^ n < 2 ^ (n + 1) := Nat.pow_lt_pow_right (by decide) (Nat.lt_succ_self n)
    split
    · exact Nat.or_lt_two_pow (by omega) h2
    · omega
/-- the points with which p isn't covered -/
noncomputable def opN (V : Nat) (T : sT) (p : Nat) : Nat := bitsOf (fun q => decide (p < V ∧ q < V ∧ ¬ p = q ∧ T p q = -1)) 15
theorem op_test {V : Nat} {T : sT} {p i : Nat} (hV : V ≤ 15) : (opN V T p).testBit i = decide (p < V ∧ i < V ∧ ¬ p = i ∧ T p i = -1) := by
  unfold opN
  rw [bits_test]
  by_cases h : p < V ∧ i < V ∧ ¬ p = i ∧ T p i = -1
  · rw [decide_eq_true h, decide_eq_true (by omega : i < 15)]; rfl
  · rw [decide_eq_false h, Bool.and_false]
theorem op_lt (V : Nat) (T : sT) (p : Nat) : opN V T p < 32768 := bits_lt _ 15
/-- without some -/
noncomputable def ndif (m n : Nat) : Nat := m ^^^ (m &&& n)
theorem nd_test (m n i : Nat) : (ndif m n).testBit i = (m.testBit i && !n.testBit i) := by
  unfold ndif
  rw [Nat.testBit_xor, Nat.testBit_and]
  cases m.testBit i <;> cases n.testBit i <;> rfl
theorem nd_lt {m n : Nat} (h : m < 32768) : ndif m n < 32768 := Nat.xor_lt_two_pow (n := 15) h (Nat.lt_of_le_of_lt Nat.and_le_left h)
theorem i_nd {x y z : Int32} {m n : Nat} (hx : x.toInt = (m : Int)) (hy : y.toInt = (n : Int)) (hm : m < 32768) (hn : n < 2147483648) (hz : z.toInt = -1) : (x &&& (y ^^^ z)).toInt = ((ndif m n : Nat) : Int) := by
  have e : z = -1 := Int32.toInt_inj.mp hz
  subst e
  have e1 := bN_t hx
  have e2 := bN_t hy
  have l := nd_lt (n := n) hm
  have e3 : bN (x &&& (y ^^^ -1)) = ndif m n := by
    apply Nat.eq_of_testBit_eq
    intro i
    rw [nd_test]
    unfold bN at *
    rw [Int32.toBitVec_and, Int32.toBitVec_xor, BitVec.toNat_and, BitVec.toNat_xor, e1, e2, Nat.testBit_and, Nat.testBit_xor]
    rcases Nat.lt_or_ge i 32 with g | g
    · have : (BitVec.toNat (Int32.toBitVec (-1))).testBit i = true := by
        have : BitVec.toNat (Int32.toBitVec (-1)) = 2 ^ 32 - 1 := by decide
        rw [this, Nat.testBit_two_pow_sub_one]
        exact decide_eq_true g
      rw [this, Bool.xor_true]
    · have : m.testBit i = false := Nat.testBit_lt_two_pow (Nat.lt_of_lt_of_le hm (Nat.le_trans (by decide : 32768 ≤ 2 ^ 32) (Nat.pow_le_pow_right (by decide) g)))
      rw [this, Bool.false_and, Bool.false_and]
  exact by rw [t_bN (by omega), e3]
/-- a board that is a system -/
noncomputable def bdOk (hp : amH) (o V : Nat) (T : sT) : Prop := rN hp o 0 = (V : Int) ∧ sOk V T ∧ (∀ u v, u < 15 → v < 15 → rN hp (o + 1) (15 * u + v) = T u v) ∧ (∀ u v, ¬ (u < 15 ∧ v < 15) → T u v = -1) ∧ ∀ p, p < 15 → rN hp (o + 3) p = ((opN V T p : Nat) : Int)
/-- which cells are written -/
noncomputable def bFx (W : List Nat) (hp hp1 : amH) : Prop := ∀ c k, ¬ c ∈ W → bFld hp1 c k = bFld hp c k
theorem bFx.refl {W : List Nat} {hp : amH} : bFx W hp hp := fun _ _ _ => rfl
theorem bFx.trans {W : List Nat} {a b c : amH} (h1 : bFx W a b) (h2 : bFx W b c) : bFx W a c := fun i k e => (h2 i k e).trans (h1 i k e)
theorem bFx.mono {W W1 : List Nat} {a b : amH} (h : bFx W a b) (hW : ∀ c, c ∈ W → c ∈ W1) : bFx W1 a b := fun i k e => h i k (fun z => e (hW i z))
theorem bFx_U {W : List Nat} {hp hp1 : amH} {c i : Nat} {m : Int} (U : rU hp hp1 c i m) (h : c ∈ W) : bFx W hp hp1 := fun c1 k e => U.2 c1 k (fun z => e (by rw [z.1]; exact h))
theorem bFx_n {W : List Nat} {hp hp1 : amH} (F : bFx W hp hp1) {c i : Nat} (h : ¬ c ∈ W) : rN hp1 c i = rN hp c i := rN_eq (F c i h)
theorem bdOk_fr {hp hp1 : amH} {o V : Nat} {T : sT} (h : bdOk hp o V T) (h0 : rN hp1 o 0 = rN hp o 0) (h1 : ∀ i, rN hp1 (o + 1) i = rN hp (o + 1) i) (h3 : ∀ i, rN hp1 (o + 3) i = rN hp (o + 3) i) : bdOk hp1 o V T :=
  ⟨by rw [h0]; exact h.1, h.2.1, fun u v hu hv => by rw [h1]; exact h.2.2.1 u v hu hv, h.2.2.2.1, fun p hp => by rw [h3]; exact h.2.2.2.2 p hp⟩
theorem b_pts {hp : amH} (hH : bHk 84 bTT hp) {o : Nat} (ho : bo o) : 0 ≤ rN hp o 0 ∧ rN hp o 0 ≤ 15 ∧ 0 ≤ rN hp o 1 ∧ rN hp o 1 ≤ 35 := by
  have h1 := rb_c hH (c := o) (f := 0) (bo_lt ho) (bo_T ho) rfl (by decide)
  have h2 := rb_c hH (c := o) (f := 1) (bo_lt ho) (bo_T ho) rfl (by decide)
  omega
theorem k_isp {d : Nat} {hp : amH} {R : xQ} {o : Nat} {a : Int32} (ho : bo o) (hH : bHk 84 bTT hp) (hR : ∀ z : Int32, ((z.toInt = 1 ∧ 0 ≤ a.toInt ∧ a.toInt < rN hp o 0) ∨ (z.toInt = 0 ∧ (a.toInt < 0 ∨ rN hp o 0 ≤ a.toInt))) → R (.inl (some (.int z))) hp) : xK d 3 [.ref o, .int a] hp R := by
  refine xin (M := am_m3) rfl rfl (by unfold xAv; simp [amOk, bo_lt ho, Value.category]) ?_
  refine xild 1 ⟨u3, _, rfl⟩ rfl rfl ?_
  refine xif_lt 4 ⟨u3, _, rfl⟩ rfl (fun c1 => ?_) (fun c1 => ?_)
  · refine xcst 17 (0) ⟨u3, _, rfl⟩ rfl (by decide) (fun z16 h16 => ?_)
    exact xretB ⟨u3, _, rfl⟩ rfl (by omega) (hR _ (by omega))
  · refine xild 5 ⟨u3, _, rfl⟩ rfl rfl ?_
    refine xald 6 ⟨u3, _, rfl⟩ rfl rfl ?_
    refine xgetC 9 hH ⟨u3, _, rfl⟩ rfl (bo_lt ho) (by decide) (bo_T ho) rfl (by decide) (fun z6 h6 => ?_)
    refine xcmp_ge 12 ⟨u3, _, rfl⟩ rfl (fun c9 => ?_) (fun c9 => ?_)
    · refine xcst 17 (0) ⟨u3, _, rfl⟩ rfl (by decide) (fun z16 h16 => ?_)
      exact xretB ⟨u3, _, rfl⟩ rfl (by omega) (hR _ (by omega))
    · refine xcst 13 (1) ⟨u3, _, rfl⟩ rfl (by decide) (fun z12 h12 => ?_)
      refine xgoto ⟨u3, _, rfl⟩ ?_
      exact xretB ⟨u3, _, rfl⟩ rfl (by omega) (hR _ (by omega))
theorem k_all {d : Nat} {hp : amH} {R : xQ} {o V : Nat} (ho : bo o) (hH : bHk 84 bTT hp) (hV : rN hp o 0 = (V : Int)) (hR : ∀ z : Int32, z.toInt = ((2 ^ V - 1 : Nat) : Int) → R (.inl (some (.int z))) hp) : xK d 4 [.ref o] hp R := by
  have b := b_pts hH ho
  refine xin (M := am_m4) rfl rfl (by unfold xAv; simp [amOk, bo_lt ho, Value.category]) ?_
  refine xcst 1 (1) ⟨u4, _, rfl⟩ rfl (by decide) (fun z0 h0 => ?_)
  refine xald 2 ⟨u4, _, rfl⟩ rfl rfl ?_
  refine xgetC 5 hH ⟨u4, _, rfl⟩ rfl (bo_lt ho) (by decide) (bo_T ho) rfl (by decide) (fun z2 h2 => ?_)
  refine xshl 6 ⟨u4, _, rfl⟩ rfl ?_
  refine xcst 7 (1) ⟨u4, _, rfl⟩ rfl (by decide) (fun z6 h6 => ?_)
  have s := i_shlV h0 (h2.trans hV) (by omega)
  refine xsub 8 _ ⟨u4, _, rfl⟩ rfl rfl (by omega) (by omega) (fun z7 h7 => ?_)
  exact xret ⟨u4, _, rfl⟩ rfl (hR _ (by omega))
theorem k_thd {d : Nat} {hp : amH} {R : xQ} {o V : Nat} {T : sT} {a b : Int32} (ho : bo o) (hH : bHk 84 bTT hp) (hB : bdOk hp o V T) (hR : ∀ z : Int32, z.toInt = (if 0 ≤ a.toInt ∧ 0 ≤ b.toInt then T a.toInt.toNat b.toInt.toNat else -1) → R (.inl (some (.int z))) hp) : xK d 7 [.ref o, .int a, .int b] hp R := by
  have q := b_pts hH ho
  obtain ⟨h1, h2, h3, h4, -⟩ := hB
  have hno : a.toInt < 0 ∨ (V : Int) ≤ a.toInt ∨ b.toInt < 0 ∨ (V : Int) ≤ b.toInt → (if 0 ≤ a.toInt ∧ 0 ≤ b.toInt then T a.toInt.toNat b.toInt.toNat else -1) = -1 := by
    intro g
    split
    · rcases h2.2.2 a.toInt.toNat b.toInt.toNat with k | ⟨c, k, k1, k2, -⟩
      · exact k
      · omega
    · rfl
  refine xin (M := am_m7) rfl rfl (by unfold xAv; simp [amOk, bo_lt ho, Value.category]) ?_
  refine xild 1 ⟨u7, _, rfl⟩ rfl rfl ?_
  refine xif_lt 4 ⟨u7, _, rfl⟩ rfl (fun c1 => ?_) (fun c1 => ?_)
  · refine xcst 39 (-1) ⟨u7, _, rfl⟩ rfl (by decide) (fun z38 h38 => ?_)
    exact xret ⟨u7, _, rfl⟩ rfl (hR _ (by rw [hno (by omega)]; exact h38))
  · refine xild 5 ⟨u7, _, rfl⟩ rfl rfl ?_
    refine xald 6 ⟨u7, _, rfl⟩ rfl rfl ?_
    refine xgetC 9 hH ⟨u7, _, rfl⟩ rfl (bo_lt ho) (by decide) (bo_T ho) rfl (by decide) (fun z6 h6 => ?_)
    refine xcmp_ge 12 ⟨u7, _, rfl⟩ rfl (fun c9 => ?_) (fun c9 => ?_)
    · refine xcst 39 (-1) ⟨u7, _, rfl⟩ rfl (by decide) (fun z38 h38 => ?_)
      exact xret ⟨u7, _, rfl⟩ rfl (hR _ (by rw [hno (by omega)]; exact h38))
    · refine xild 13 ⟨u7, _, rfl⟩ rfl rfl ?_
      refine xif_lt 16 ⟨u7, _, rfl⟩ rfl (fun c13 => ?_) (fun c13 => ?_)
      · refine xcst 39 (-1) ⟨u7, _, rfl⟩ rfl (by decide) (fun z38 h38 => ?_)
        exact xret ⟨u7, _, rfl⟩ rfl (hR _ (by rw [hno (by omega)]; exact h38))
      · refine xild 17 ⟨u7, _, rfl⟩ rfl rfl ?_
        refine xald 18 ⟨u7, _, rfl⟩ rfl rfl ?_
        refine xgetC 21 hH ⟨u7, _, rfl⟩ rfl (bo_lt ho) (by decide) (bo_T ho) rfl (by decide) (fun z18 h18 => ?_)
        refine xcmp_ge 24 ⟨u7, _, rfl⟩ rfl (fun c21 => ?_) (fun c21 => ?_)
        · refine xcst 39 (-1) ⟨u7, _, rfl⟩ rfl (by decide) (fun z38 h38 => ?_)
          exact xret ⟨u7, _, rfl⟩ rfl (hR _ (by rw [hno (by omega)]; exact h38))
        · refine xald 25 ⟨u7, _, rfl⟩ rfl rfl ?_
          refine xgetD 28 (o + 1) hH ⟨u7, _, rfl⟩ rfl (bo_lt ho) (by decide) (bo_T ho) rfl (by decide) ?_
          refine xild 29 ⟨u7, _, rfl⟩ rfl rfl ?_
          refine xbip 31 (15) ⟨u7, _, rfl⟩ rfl (by decide) (fun z29 h29 => ?_)
          refine xmul 32 (Int32.toInt a * 15) ⟨u7, _, rfl⟩ rfl (by rw [h29]) (by omega) (by omega) (fun z31 h31 => ?_)
          refine xild 33 ⟨u7, _, rfl⟩ rfl rfl ?_
          refine xadd 34 _ ⟨u7, _, rfl⟩ rfl rfl (by omega) (by omega) (fun z33 h33 => ?_)
          refine xiald 35 (z33).toInt.toNat hH ⟨u7, _, rfl⟩ rfl (bo_lt1 ho) (bo_T1 ho) (by omega) (by omega) (fun z34 h34 => ?_)
          refine xgoto ⟨u7, _, rfl⟩ ?_
          exact xret ⟨u7, _, rfl⟩ rfl (hR _ (by rw [if_pos (by omega), ← h3 _ _ (by omega) (by omega), h34]; congr 1; omega))
theorem k_opn {d : Nat} {hp : amH} {R : xQ} {o V x : Nat} {T : sT} {a : Int32} (ho : bo o) (hH : bHk 84 bTT hp) (hB : bdOk hp o V T) (ha : a.toInt = (x : Int)) (hR : ∀ z : Int32, z.toInt = ((opN V T x : Nat) : Int) → R (.inl (some (.int z))) hp) : xK (d + 1) 8 [.ref o, .int a] hp R := by
  have q := b_pts hH ho
  obtain ⟨h1, h2, h3, h4, h5⟩ := hB
  have hno : ¬ x < V → opN V T x = 0 := by
    intro g
    apply Nat.eq_of_testBit_eq
    intro i
    rw [op_test h2.2.1, decide_eq_false (by omega), Nat.zero_testBit]
  refine xin (M := am_m8) rfl rfl (by unfold xAv; simp [amOk, bo_lt ho, Value.category]) ?_
  refine xald 1 ⟨u8, _, rfl⟩ rfl rfl ?_
  refine xild 2 ⟨u8, _, rfl⟩ rfl rfl ?_
  refine xcallC 5 (o := o) [.int _] [] hH ⟨u8, _, rfl⟩ rfl rfl (bo_lt ho) (bo_T ho) (by decide) rfl ⟨rfl, rfl, rfl, rfl⟩ rfl (k_isp ho hH (fun z2 h2 => ⟨_, rfl, ?_⟩))
  refine xif_eq 8 ⟨u8, _, rfl⟩ rfl (fun c5 => ?_) (fun c5 => ?_)
  · refine xcst 18 (0) ⟨u8, _, rfl⟩ rfl (by decide) (fun z17 h17 => ?_)
    exact xret ⟨u8, _, rfl⟩ rfl (hR _ (by rw [hno (by omega)]; exact h17))
  · refine xald 9 ⟨u8, _, rfl⟩ rfl rfl ?_
    refine xgetD 12 (o + 3) hH ⟨u8, _, rfl⟩ rfl (bo_lt ho) (by decide) (bo_T ho) rfl (by decide) ?_
    refine xild 13 ⟨u8, _, rfl⟩ rfl rfl ?_
    refine xiald 14 (a).toInt.toNat hH ⟨u8, _, rfl⟩ rfl (bo_lt3 ho) (bo_T3 ho) (by omega) (by omega) (fun z13 h13 => ?_)
    refine xgoto ⟨u8, _, rfl⟩ ?_
    exact xret ⟨u8, _, rfl⟩ rfl (hR _ (by rw [← h5 x (by omega), h13]; congr 1; omega))
/-- a pair gets its third point -/
theorem k_join {d : Nat} {hp : amH} {R : xQ} {o V x y : Nat} {a b c : Int32} (ho : bo o) (hH : bHk 84 bTT hp) (hV : rN hp o 0 = (V : Int)) (ha : a.toInt = (x : Int)) (hb : b.toInt = (y : Int)) (hx : x < V) (hy : y < V) (hxy : ¬ x = y) {m n : Nat} (hm : rN hp (o + 3) x = (m : Int)) (hn : rN hp (o + 3) y = (n : Int)) (hm2 : m < 32768) (hn2 : n < 32768)
    (hR : ∀ hp1, bHk 84 bTT hp1 → bFx [o + 1, o + 3] hp hp1 → (∀ u v, u < 15 → v < 15 → rN hp1 (o + 1) (15 * u + v) = if (u = x ∧ v = y) ∨ (u = y ∧ v = x) then c.toInt else rN hp (o + 1) (15 * u + v)) → rN hp1 (o + 3) x = ((ndif m (2 ^ y) : Nat) : Int) → rN hp1 (o + 3) y = ((ndif n (2 ^ x) : Nat) : Int) → (∀ p, ¬ p = x → ¬ p = y → rN hp1 (o + 3) p = rN hp (o + 3) p) → R (.inl none) hp1) : xK (d + 1) 16 [.ref o, .int a, .int b, .int c] hp R := by
  have q := b_pts hH ho
  have c1 := aMin c
  have c2 := aMax c
  refine xin (M := am_m16) rfl rfl (by unfold xAv; simp [amOk, bo_lt ho, Value.category]) ?_
  refine xald 1 ⟨u16, _, rfl⟩ rfl rfl ?_
  refine xild 2 ⟨u16, _, rfl⟩ rfl rfl ?_
  refine xcallC 5 (o := o) [.int _] [] hH ⟨u16, _, rfl⟩ rfl rfl (bo_lt ho) (bo_T ho) (by decide) rfl ⟨rfl, rfl, rfl, rfl⟩ rfl (k_isp ho hH (fun z2 h2 => ⟨_, rfl, ?_⟩))
  refine xif_eq 8 ⟨u16, _, rfl⟩ rfl (fun c5 => ?_) (fun c5 => ?_)
  · omega
  · refine xald 9 ⟨u16, _, rfl⟩ rfl rfl ?_
    refine xild 10 ⟨u16, _, rfl⟩ rfl rfl ?_
    refine xcallC 13 (o := o) [.int _] [] hH ⟨u16, _, rfl⟩ rfl rfl (bo_lt ho) (bo_T ho) (by decide) rfl ⟨rfl, rfl, rfl, rfl⟩ rfl (k_isp ho hH (fun z10 h10 => ⟨_, rfl, ?_⟩))
    refine xif_eq 16 ⟨u16, _, rfl⟩ rfl (fun c13 => ?_) (fun c13 => ?_)
    · omega
    · refine xald 17 ⟨u16, _, rfl⟩ rfl rfl ?_
      refine xgetD 20 (o + 1) hH ⟨u16, _, rfl⟩ rfl (bo_lt ho) (by decide) (bo_T ho) rfl (by decide) ?_
      refine xild 21 ⟨u16, _, rfl⟩ rfl rfl ?_
      refine xbip 23 (15) ⟨u16, _, rfl⟩ rfl (by decide) (fun z21 h21 => ?_)
      refine xmul 24 (Int32.toInt a * 15) ⟨u16, _, rfl⟩ rfl (by rw [h21]) (by omega) (by omega) (fun z23 h23 => ?_)
      refine xild 25 ⟨u16, _, rfl⟩ rfl rfl ?_
      refine xadd 26 _ ⟨u16, _, rfl⟩ rfl rfl (by omega) (by omega) (fun z25 h25 => ?_)
      refine xild 27 ⟨u16, _, rfl⟩ rfl rfl ?_
      refine xiast 28 (z25).toInt.toNat hH ⟨u16, _, rfl⟩ rfl (bo_lt1 ho) (bo_T1 ho) (by omega) (by omega) (by omega) (by omega) (fun hp27 hH27 U27 => ?_)
      have s27 := U27.1
      refine xald 29 ⟨u16, _, rfl⟩ rfl rfl ?_
      refine xgetD 32 (o + 1) hH27 ⟨u16, _, rfl⟩ rfl (bo_lt ho) (by decide) (bo_T ho) rfl (by decide) ?_
      refine xild 33 ⟨u16, _, rfl⟩ rfl rfl ?_
      refine xbip 35 (15) ⟨u16, _, rfl⟩ rfl (by decide) (fun z33 h33 => ?_)
      refine xmul 36 (Int32.toInt b * 15) ⟨u16, _, rfl⟩ rfl (by rw [h33]) (by omega) (by omega) (fun z35 h35 => ?_)
      refine xild 37 ⟨u16, _, rfl⟩ rfl rfl ?_
      refine xadd 38 _ ⟨u16, _, rfl⟩ rfl rfl (by omega) (by omega) (fun z37 h37 => ?_)
      refine xild 39 ⟨u16, _, rfl⟩ rfl rfl ?_
      refine xiast 40 (z37).toInt.toNat hH27 ⟨u16, _, rfl⟩ rfl (bo_lt1 ho) (bo_T1 ho) (by omega) (by omega) (by omega) (by omega) (fun hp39 hH39 U39 => ?_)
      have s39 := U39.1
      refine xald 41 ⟨u16, _, rfl⟩ rfl rfl ?_
      refine xgetD 44 (o + 3) hH39 ⟨u16, _, rfl⟩ rfl (bo_lt ho) (by decide) (bo_T ho) rfl (by decide) ?_
      refine xild 45 ⟨u16, _, rfl⟩ rfl rfl ?_
      refine xdup2 46 ⟨u16, _, rfl⟩ rfl rfl rfl ?_
      refine xiald 47 (a).toInt.toNat hH39 ⟨u16, _, rfl⟩ rfl (bo_lt3 ho) (bo_T3 ho) (by omega) (by omega) (fun z46 h46 => ?_)
      refine xcst 48 (1) ⟨u16, _, rfl⟩ rfl (by decide) (fun z47 h47 => ?_)
      refine xild 49 ⟨u16, _, rfl⟩ rfl rfl ?_
      refine xshl 50 ⟨u16, _, rfl⟩ rfl ?_
      refine xcst 51 (-1) ⟨u16, _, rfl⟩ rfl (by decide) (fun z50 h50 => ?_)
      refine xxor 52 ⟨u16, _, rfl⟩ rfl ?_
      refine xand 53 ⟨u16, _, rfl⟩ rfl ?_
      have h46m : z46.toInt = (m : Int) := by rw [h46, rU_ne U39 (by first | decide | exact (fun z => absurd z.1 (by decide)) | omega), rU_ne U27 (by first | decide | exact (fun z => absurd z.1 (by decide)) | omega), show a.toInt.toNat = x by omega]; exact hm
      have w1 := i_nd h46m (i_shl h47 hb (by omega)).1 hm2 (by have := (i_shl h47 hb (by omega)).2; omega) h50
      have w1b := nd_lt (n := 2 ^ y) hm2
      refine xiast 54 (a).toInt.toNat hH39 ⟨u16, _, rfl⟩ rfl (bo_lt3 ho) (bo_T3 ho) (by omega) (by omega) (by omega) (by omega) (fun hp53 hH53 U53 => ?_)
      have s53 := U53.1
      refine xald 55 ⟨u16, _, rfl⟩ rfl rfl ?_
      refine xgetD 58 (o + 3) hH53 ⟨u16, _, rfl⟩ rfl (bo_lt ho) (by decide) (bo_T ho) rfl (by decide) ?_
      refine xild 59 ⟨u16, _, rfl⟩ rfl rfl ?_
      refine xdup2 60 ⟨u16, _, rfl⟩ rfl rfl rfl ?_
      refine xiald 61 (b).toInt.toNat hH53 ⟨u16, _, rfl⟩ rfl (bo_lt3 ho) (bo_T3 ho) (by omega) (by omega) (fun z60 h60 => ?_)
      refine xcst 62 (1) ⟨u16, _, rfl⟩ rfl (by decide) (fun z61 h61 => ?_)
      refine xild 63 ⟨u16, _, rfl⟩ rfl rfl ?_
      refine xshl 64 ⟨u16, _, rfl⟩ rfl ?_
      refine xcst 65 (-1) ⟨u16, _, rfl⟩ rfl (by decide) (fun z64 h64 => ?_)
      refine xxor 66 ⟨u16, _, rfl⟩ rfl ?_
      refine xand 67 ⟨u16, _, rfl⟩ rfl ?_
      have h60n : z60.toInt = (n : Int) := by rw [h60, rU_ne U53 (by first | decide | exact (fun z => absurd z.1 (by decide)) | omega), rU_ne U39 (by first | decide | exact (fun z => absurd z.1 (by decide)) | omega), rU_ne U27 (by first | decide | exact (fun z => absurd z.1 (by decide)) | omega), show b.toInt.toNat = y by omega]; exact hn
      have w2 := i_nd h60n (i_shl h61 ha (by omega)).1 hn2 (by have := (i_shl h61 ha (by omega)).2; omega) h64
      have w2b := nd_lt (n := 2 ^ x) hn2
      refine xiast 68 (b).toInt.toNat hH53 ⟨u16, _, rfl⟩ rfl (bo_lt3 ho) (bo_T3 ho) (by omega) (by omega) (by omega) (by omega) (fun hp67 hH67 U67 => ?_)
      have s67 := U67.1
      exact xretV ⟨u16, _, rfl⟩ rfl (hR hp67 hH67 ((((bFx_U U27 (by simp)).trans (bFx_U U39 (by simp))).trans (bFx_U U53 (by simp))).trans (bFx_U U67 (by simp))) (fun u v hu hv => by
          rw [rU_ne U67 (by first | decide | exact (fun z => absurd z.1 (by decide)) | omega), rU_ne U53 (by first | decide | exact (fun z => absurd z.1 (by decide)) | omega)]
          by_cases e2 : u = y ∧ v = x
          · obtain ⟨rfl, rfl⟩ := e2
            rw [if_pos (by omega), show 15 * u + v = z37.toInt.toNat by omega]
            exact U39.1
          · rw [rU_ne U39 (by first | decide | exact (fun z => absurd z.1 (by decide)) | omega)]
            by_cases e1 : u = x ∧ v = y
            · obtain ⟨rfl, rfl⟩ := e1
              rw [if_pos (by omega), show 15 * u + v = z25.toInt.toNat by omega]
              exact U27.1
            · rw [if_neg (by omega), rU_ne U27 (by first | decide | exact (fun z => absurd z.1 (by decide)) | omega)]) (by rw [rU_ne U67 (by first | decide | exact (fun z => absurd z.1 (by decide)) | omega), show x = a.toInt.toNat by omega, U53.1, w1]) (by rw [show y = b.toInt.toNat by omega, U67.1, w2]) (fun p p1 p2 => by rw [rU_ne U67 (by first | decide | exact (fun z => absurd z.1 (by decide)) | omega), rU_ne U53 (by first | decide | exact (fun z => absurd z.1 (by decide)) | omega), rU_ne U39 (by first | decide | exact (fun z => absurd z.1 (by decide)) | omega), rU_ne U27 (by first | decide | exact (fun z => absurd z.1 (by decide)) | omega)]))
end
/-! ##### 19.m.007.26f ##### -/
section
/-! ===== the class's boards: triples put, taken ===== -/
theorem m3_test (x y z i : Nat) : (m3 x y z).testBit i = decide (i = x ∨ i = y ∨ i = z) := by
  unfold m3
  rw [Nat.testBit_or, Nat.testBit_or, Nat.testBit_two_pow, Nat.testBit_two_pow, Nat.testBit_two_pow]
  by_cases h1 : i = x
  · simp [h1]
  · by_cases h2 : i = y
    · simp [h2]
    · by_cases h3 : i = z
      · simp [h3]
      · have a1 : ¬ x = i := fun e => h1 e.symm
        have a2 : ¬ y = i := fun e => h2 e.symm
        have a3 : ¬ z = i := fun e => h3 e.symm
        simp [h1, h2, h3, a1, a2, a3]
theorem p2_test (x i : Nat) : (2 ^ x).testBit i = decide (i = x) := by
  rw [Nat.testBit_two_pow]
  by_cases h : x = i
  · simp [h]
  · have : ¬ i = x := fun e => h e.symm
    simp [h, this]
/-- the points of a triple that go with one of its points are those not covered with it -/
theorem tk_eq {V x p q : Nat} {T : sT} (hV : V ≤ 15) (hp : p < V) (hq : q < V) (hx : x < V) (hpq : ¬ p = q) (hxp : ¬ x = p) (hxq : ¬ x = q) {m : Nat} (hm : ∀ i, m.testBit i = decide (i = x ∨ i = p ∨ i = q)) : (opN V T x &&& m = ndif m (2 ^ x)) ↔ (T x p = -1 ∧ T x q = -1) := by
  constructor
  · intro h
    have g : ∀ i, (i = p ∨ i = q) → T x i = -1 := by
      intro i hi
      have e := congrArg (fun k => Nat.testBit k i) h
      simp only [Nat.testBit_and, nd_test, op_test hV, hm, p2_test] at e
      rw [decide_eq_true (show i = x ∨ i = p ∨ i = q by omega), decide_eq_false (show ¬ i = x by omega)] at e
      simp only [Bool.and_true, Bool.not_false, decide_eq_true_eq] at e
      exact e.2.2.2
    exact ⟨g p (Or.inl rfl), g q (Or.inr rfl)⟩
  · intro ⟨h1, h2⟩
    apply Nat.eq_of_testBit_eq
    intro i
    simp only [Nat.testBit_and, nd_test, op_test hV, hm, p2_test]
    by_cases e1 : i = x
    · subst e1
      simp
    · by_cases e2 : i = p
      · subst e2
        simp [e1, hx, hp, hxp, h1]
      · by_cases e3 : i = q
        · subst e3
          simp [e1, hx, hq, hxq, h2]
        · simp [e1, e2, e3]
theorem sy_free {V : Nat} {T : sT} (h : sOk V T) {p q : Nat} (e : T p q = -1) : T q p = -1 := by
  rcases h.2.2 q p with g | ⟨k, g1, g2, g3, g4, g5, g6, g7, g8, g9⟩
  · exact g
  · rw [e] at g8; omega
theorem k_tak {d : Nat} {hp : amH} {R : xQ} {o V x y z : Nat} {T : sT} {s : Int32} (ho : bo o) (hH : bHk 84 bTT hp) (hB : bdOk hp o V T) (hs : s.toInt = ((m3 x y z : Nat) : Int)) (q1 : x < y) (q2 : y < z) (q3 : z < V) (hR : ∀ r : Int32, ((r.toInt = 1 ∧ sFree T x y z) ∨ (r.toInt = 0 ∧ ¬ sFree T x y z)) → R (.inl (some (.int r))) hp) : xK (d + 2) 13 [.ref o, .int s] hp R := by
  have hV : V ≤ 15 := hB.2.1.2.1
  obtain ⟨M0, M1, M2⟩ := mem3 q1 q2 (by omega)
  have hm := m3_lt (x := x) (y := y) (z := z) (by omega) (by omega) (by omega)
  have tx := tk_eq (T := T) (x := x) (p := y) (q := z) hV (by omega) (by omega) (by omega) (by omega) (by omega) (by omega) (fun i => m3_test x y z i)
  have ty := tk_eq (T := T) (x := y) (p := x) (q := z) hV (by omega) (by omega) (by omega) (by omega) (by omega) (by omega) (m := m3 x y z) (fun i => by rw [m3_test, decide_eq_decide]; omega)
  have sy := fun {p q : Nat} (e : T p q = -1) => sy_free hB.2.1 e
  have key : sFree T x y z ↔ (opN V T x &&& m3 x y z = ndif (m3 x y z) (2 ^ x) ∧ opN V T y &&& m3 x y z = ndif (m3 x y z) (2 ^ y)) := by
    rw [tx, ty]
    exact ⟨fun g => ⟨⟨g.1, g.2.2⟩, sy g.1, g.2.1⟩, fun g => ⟨g.1.1, g.2.2, g.1.2⟩⟩
  refine xin (M := am_m13) rfl rfl (by unfold xAv; simp [amOk, bo_lt ho, Value.category]) ?_
  refine xild 1 ⟨u13, _, rfl⟩ rfl rfl ?_
  refine xcst 2 (0) ⟨u13, _, rfl⟩ rfl (by decide) (fun z1 h1 => ?_)
  refine xcallS 5 [.int _, .int _] [] hH ⟨u13, _, rfl⟩ rfl rfl rfl rfl rfl (k_mem hH hs hm (i := 0) (by omega) (fun z2 h2 => ⟨_, rfl, ?_⟩))
  refine xist 6 ⟨u13, _, rfl⟩ rfl rfl ?_
  refine xild 7 ⟨u13, _, rfl⟩ rfl rfl ?_
  refine xcst 8 (1) ⟨u13, _, rfl⟩ rfl (by decide) (fun z7 h7 => ?_)
  refine xcallS 11 [.int _, .int _] [] hH ⟨u13, _, rfl⟩ rfl rfl rfl rfl rfl (k_mem hH hs hm (i := 1) (by omega) (fun z8 h8 => ⟨_, rfl, ?_⟩))
  refine xist 12 ⟨u13, _, rfl⟩ rfl rfl ?_
  refine xald 13 ⟨u13, _, rfl⟩ rfl rfl ?_
  refine xild 14 ⟨u13, _, rfl⟩ rfl rfl ?_
  refine xcallC 17 (o := o) [.int _] [] hH ⟨u13, _, rfl⟩ rfl rfl (bo_lt ho) (bo_T ho) (by decide) rfl ⟨rfl, rfl, rfl, rfl⟩ rfl (k_opn ho hH hB (x := x) (by omega) (fun z14 h14 => ⟨_, rfl, ?_⟩))
  refine xild 18 ⟨u13, _, rfl⟩ rfl rfl ?_
  refine xand 19 ⟨u13, _, rfl⟩ rfl ?_
  refine xild 20 ⟨u13, _, rfl⟩ rfl rfl ?_
  refine xcst 21 (1) ⟨u13, _, rfl⟩ rfl (by decide) (fun z20 h20 => ?_)
  refine xild 22 ⟨u13, _, rfl⟩ rfl rfl ?_
  refine xshl 23 ⟨u13, _, rfl⟩ rfl ?_
  refine xcst 24 (-1) ⟨u13, _, rfl⟩ rfl (by decide) (fun z23 h23 => ?_)
  refine xxor 25 ⟨u13, _, rfl⟩ rfl ?_
  refine xand 26 ⟨u13, _, rfl⟩ rfl ?_
  have n17 := (i_and h14 hs (op_lt V T x)).1
  have n25 := i_nd hs (i_shl (n := x) h20 (show z2.toInt = (x : Int) by omega) (by omega)).1 hm (by have := (i_shl (n := x) h20 (show z2.toInt = (x : Int) by omega) (by omega)).2; omega) h23
  refine xcmp_ne 29 ⟨u13, _, rfl⟩ rfl (fun c26 => ?_) (fun c26 => ?_)
  · refine xcst 51 (0) ⟨u13, _, rfl⟩ rfl (by decide) (fun z50 h50 => ?_)
    exact xretB ⟨u13, _, rfl⟩ rfl (by omega) (hR _ (Or.inr ⟨by omega, fun g => by have := key.mp g; omega⟩))
  · refine xald 30 ⟨u13, _, rfl⟩ rfl rfl ?_
    refine xild 31 ⟨u13, _, rfl⟩ rfl rfl ?_
    refine xcallC 34 (o := o) [.int _] [] hH ⟨u13, _, rfl⟩ rfl rfl (bo_lt ho) (bo_T ho) (by decide) rfl ⟨rfl, rfl, rfl, rfl⟩ rfl (k_opn ho hH hB (x := y) (by omega) (fun z31 h31 => ⟨_, rfl, ?_⟩))
    refine xild 35 ⟨u13, _, rfl⟩ rfl rfl ?_
    refine xand 36 ⟨u13, _, rfl⟩ rfl ?_
    refine xild 37 ⟨u13, _, rfl⟩ rfl rfl ?_
    refine xcst 38 (1) ⟨u13, _, rfl⟩ rfl (by decide) (fun z37 h37 => ?_)
    refine xild 39 ⟨u13, _, rfl⟩ rfl rfl ?_
    refine xshl 40 ⟨u13, _, rfl⟩ rfl ?_
    refine xcst 41 (-1) ⟨u13, _, rfl⟩ rfl (by decide) (fun z40 h40 => ?_)
    refine xxor 42 ⟨u13, _, rfl⟩ rfl ?_
    refine xand 43 ⟨u13, _, rfl⟩ rfl ?_
    have n34 := (i_and h31 hs (op_lt V T y)).1
    have n42 := i_nd hs (i_shl (n := y) h37 (show z8.toInt = (y : Int) by omega) (by omega)).1 hm (by have := (i_shl (n := y) h37 (show z8.toInt = (y : Int) by omega) (by omega)).2; omega) h40
    refine xcmp_ne 46 ⟨u13, _, rfl⟩ rfl (fun c43 => ?_) (fun c43 => ?_)
    · refine xcst 51 (0) ⟨u13, _, rfl⟩ rfl (by decide) (fun z50 h50 => ?_)
      exact xretB ⟨u13, _, rfl⟩ rfl (by omega) (hR _ (Or.inr ⟨by omega, fun g => by have := key.mp g; omega⟩))
    · refine xcst 47 (1) ⟨u13, _, rfl⟩ rfl (by decide) (fun z46 h46 => ?_)
      refine xgoto ⟨u13, _, rfl⟩ ?_
      exact xretB ⟨u13, _, rfl⟩ rfl (by omega) (hR _ (Or.inl ⟨by omega, key.mpr ⟨by omega, by omega⟩⟩))
theorem op_put {V x y z p : Nat} {T : sT} (hV : V ≤ 15) (hx : x < V) (hy : y < V) (hz : z < V) (hxy : ¬ x = y) (hyz : ¬ y = z) (hxz : ¬ x = z) : opN V (sPut T x y z) p = if p = x then ndif (ndif (opN V T x) (2 ^ y)) (2 ^ z) else if p = y then ndif (ndif (opN V T y) (2 ^ x)) (2 ^ z) else if p = z then ndif (ndif (opN V T z) (2 ^ x)) (2 ^ y) else opN V T p := by
  have go : ∀ x y z : Nat, x < V → y < V → z < V → ¬ x = y → ¬ y = z → ¬ x = z → ∀ S : sT, (∀ i, S x i = -1 ↔ (T x i = -1 ∧ ¬ i = y ∧ ¬ i = z)) → opN V S x = ndif (ndif (opN V T x) (2 ^ y)) (2 ^ z) := by
    intro x y z hx hy hz hxy hyz hxz S hS
    apply Nat.eq_of_testBit_eq
    intro i
    rw [nd_test, nd_test, op_test hV, op_test hV, p2_test, p2_test]
    have := hS i
    by_cases e1 : i = y
    · subst e1; simp [this]
    · by_cases e2 : i = z
      · subst e2; simp [this]
      · simp [this, e1, e2]
  have hS : ∀ p i, ¬ sPr x y z p i → sPut T x y z p i = T p i := fun p i h => by unfold sPut; rw [if_neg h]
  have hS2 : ∀ p i, sPr x y z p i → ¬ sPut T x y z p i = -1 := fun p i h => by
    unfold sPut; rw [if_pos h]
    obtain ⟨g1, g2, g3⟩ := h
    omega
  split
  · next e =>
    subst e
    refine go p y z hx hy hz hxy hyz hxz _ (fun i => ?_)
    by_cases h : sPr p y z p i
    · exact ⟨fun g => absurd g (hS2 _ _ h), fun g => absurd g (by omega)⟩
    · rw [hS _ _ h]
      exact ⟨fun g => ⟨g, by omega, by omega⟩, fun g => g.1⟩
  · next e1 =>
    split
    · next e =>
      subst e
      refine go p x z hy hx hz (by omega) hxz hyz _ (fun i => ?_)
      by_cases h : sPr x p z p i
      · exact ⟨fun g => absurd g (hS2 _ _ h), fun g => absurd g (by omega)⟩
      · rw [hS _ _ h]
        exact ⟨fun g => ⟨g, by omega, by omega⟩, fun g => g.1⟩
    · next e2 =>
      split
      · next e =>
        subst e
        refine go p x y hz hx hy (by omega) hxy (by omega) _ (fun i => ?_)
        by_cases h : sPr x y p p i
        · exact ⟨fun g => absurd g (hS2 _ _ h), fun g => absurd g (by omega)⟩
        · rw [hS _ _ h]
          exact ⟨fun g => ⟨g, by omega, by omega⟩, fun g => g.1⟩
      · next e3 =>
        apply Nat.eq_of_testBit_eq
        intro i
        rw [op_test hV, op_test hV, hS _ _ (by omega)]
theorem k_bput {d : Nat} {hp : amH} {R : xQ} {o V x y z : Nat} {T : sT} {s : Int32} (ho : bo o) (hH : bHk 84 bTT hp) (hB : bdOk hp o V T) (hs : s.toInt = ((m3 x y z : Nat) : Int)) (q1 : x < y) (q2 : y < z) (q3 : z < V) (hf : sFree T x y z)
    (hR : ∀ hp1, bHk 84 bTT hp1 → bFx [o + 1, o + 3] hp hp1 → bdOk hp1 o V (sPut T x y z) → R (.inl none) hp1) : xK (d + 2) 14 [.ref o, .int s] hp R := by
  obtain ⟨B1, B2, B3, B4, B5⟩ := id hB
  have hV : V ≤ 15 := B2.2.1
  obtain ⟨M0, M1, M2⟩ := mem3 q1 q2 (by omega)
  have hm := m3_lt (x := x) (y := y) (z := z) (by omega) (by omega) (by omega)
  have ox := B5 x (by omega)
  have oy := B5 y (by omega)
  have oz := B5 z (by omega)
  have lx := op_lt V T x
  have ly := op_lt V T y
  have lz := op_lt V T z
  have mx := nd_lt (n := 2 ^ y) lx
  have my := nd_lt (n := 2 ^ x) ly
  have mz := nd_lt (n := 2 ^ x) lz
  refine xin (M := am_m14) rfl rfl (by unfold xAv; simp [amOk, bo_lt ho, Value.category]) ?_
  refine xild 1 ⟨u14, _, rfl⟩ rfl rfl ?_
  refine xcst 2 (0) ⟨u14, _, rfl⟩ rfl (by decide) (fun z1 h1 => ?_)
  refine xcallS 5 [.int _, .int _] [] hH ⟨u14, _, rfl⟩ rfl rfl rfl rfl rfl (k_mem hH hs hm (i := 0) (by omega) (fun z2 h2 => ⟨_, rfl, ?_⟩))
  refine xist 6 ⟨u14, _, rfl⟩ rfl rfl ?_
  refine xild 7 ⟨u14, _, rfl⟩ rfl rfl ?_
  refine xcst 8 (1) ⟨u14, _, rfl⟩ rfl (by decide) (fun z7 h7 => ?_)
  refine xcallS 11 [.int _, .int _] [] hH ⟨u14, _, rfl⟩ rfl rfl rfl rfl rfl (k_mem hH hs hm (i := 1) (by omega) (fun z8 h8 => ⟨_, rfl, ?_⟩))
  refine xist 12 ⟨u14, _, rfl⟩ rfl rfl ?_
  refine xild 13 ⟨u14, _, rfl⟩ rfl rfl ?_
  refine xcst 14 (2) ⟨u14, _, rfl⟩ rfl (by decide) (fun z13 h13 => ?_)
  refine xcallS 17 [.int _, .int _] [] hH ⟨u14, _, rfl⟩ rfl rfl rfl rfl rfl (k_mem hH hs hm (i := 2) (by omega) (fun z14 h14 => ⟨_, rfl, ?_⟩))
  refine xist2 19 ⟨u14, _, rfl⟩ rfl rfl ?_
  refine xald 20 ⟨u14, _, rfl⟩ rfl rfl ?_
  refine xild 21 ⟨u14, _, rfl⟩ rfl rfl ?_
  refine xild 22 ⟨u14, _, rfl⟩ rfl rfl ?_
  refine xild2 24 ⟨u14, _, rfl⟩ rfl rfl ?_
  refine xcallC 27 (o := o) [.int _, .int _, .int _] [] hH ⟨u14, _, rfl⟩ rfl rfl (bo_lt ho) (bo_T ho) (by decide) rfl ⟨rfl, rfl, rfl, rfl⟩ rfl (k_join ho hH (V := V) B1 (x := x) (y := y) (by omega) (by omega) (by omega) (by omega) (by omega) ox oy lx ly (fun hp24 hH24 F24 E24 A24 B24 C24 => ⟨_, rfl, ?_⟩))
  refine xald 28 ⟨u14, _, rfl⟩ rfl rfl ?_
  refine xild 29 ⟨u14, _, rfl⟩ rfl rfl ?_
  refine xild2 31 ⟨u14, _, rfl⟩ rfl rfl ?_
  refine xild 32 ⟨u14, _, rfl⟩ rfl rfl ?_
  refine xcallC 35 (o := o) [.int _, .int _, .int _] [] hH24 ⟨u14, _, rfl⟩ rfl rfl (bo_lt ho) (bo_T ho) (by decide) rfl ⟨rfl, rfl, rfl, rfl⟩ rfl (k_join ho hH24 (V := V) (by rw [bFx_n F24 (by simp)]; exact B1) (x := x) (y := z) (by omega) (by omega) (by omega) (by omega) (by omega) A24 (by rw [C24 z (by omega) (by omega)]; exact oz) mx lz (fun hp32 hH32 F32 E32 A32 B32 C32 => ⟨_, rfl, ?_⟩))
  refine xald 36 ⟨u14, _, rfl⟩ rfl rfl ?_
  refine xild 37 ⟨u14, _, rfl⟩ rfl rfl ?_
  refine xild2 39 ⟨u14, _, rfl⟩ rfl rfl ?_
  refine xild 40 ⟨u14, _, rfl⟩ rfl rfl ?_
  refine xcallC 43 (o := o) [.int _, .int _, .int _] [] hH32 ⟨u14, _, rfl⟩ rfl rfl (bo_lt ho) (bo_T ho) (by decide) rfl ⟨rfl, rfl, rfl, rfl⟩ rfl (k_join ho hH32 (V := V) (by rw [bFx_n F32 (by simp), bFx_n F24 (by simp)]; exact B1) (x := y) (y := z) (by omega) (by omega) (by omega) (by omega) (by omega) (by rw [C32 y (by omega) (by omega)]; exact B24) B32 my mz (fun hp40 hH40 F40 E40 A40 B40 C40 => ⟨_, rfl, ?_⟩))
  have F := (F24.trans F32).trans F40
  have O := fun p => op_put (p := p) (T := T) hV (show x < V by omega) (show y < V by omega) q3 (by omega) (by omega) (by omega)
  exact xretV ⟨u14, _, rfl⟩ rfl (hR hp40 hH40 F ⟨by rw [bFx_n F (by simp)]; exact B1, sOk_put B2 (by omega) (by omega) q3 (by omega) (by omega) (by omega) hf, fun u v hu hv => by
      rw [E40 u v hu hv, E32 u v hu hv, E24 u v hu hv, B3 u v hu hv]
      unfold sPut
      by_cases e1 : (u = y ∧ v = z) ∨ (u = z ∧ v = y)
      · rw [if_pos e1, if_pos (by omega)]; omega
      · rw [if_neg e1]
        by_cases e2 : (u = x ∧ v = z) ∨ (u = z ∧ v = x)
        · rw [if_pos e2, if_pos (by omega)]; omega
        · rw [if_neg e2]
          by_cases e3 : (u = x ∧ v = y) ∨ (u = y ∧ v = x)
          · rw [if_pos e3, if_pos (by omega)]; omega
          · rw [if_neg e3, if_neg (by omega)], fun u v h => by
      unfold sPut
      rw [if_neg (by omega)]
      exact B4 u v h, fun p hp => by
      rw [O p]
      by_cases e1 : p = x
      · subst e1
        rw [if_pos rfl, C40 p (by omega) (by omega)]; exact A32
      · rw [if_neg e1]
        by_cases e2 : p = y
        · subst e2
          rw [if_pos rfl]; exact A40
        · rw [if_neg e2]
          by_cases e3 : p = z
          · subst e3
            rw [if_pos rfl]; exact B40
          · rw [if_neg e3, C40 p e2 e3, C32 p e1 e3, C24 p e1 e2]; exact B5 p hp⟩)
end
/-! ##### 19.m.008.26g ##### -/
section
/-! ===== the class's boards: triples in any order; all turns ===== -/
/-- three points in their order -/
theorem srt {a b c : Nat} (hab : ¬ a = b) (hbc : ¬ b = c) (hac : ¬ a = c) : ∃ x y z : Nat, x < y ∧ y < z ∧ m3 a b c = m3 x y z ∧ (∀ T : sT, sPut T a b c = sPut T x y z) ∧ (∀ T : sT, (∀ u v, T u v = -1 → T v u = -1) → (sFree T a b c ↔ sFree T x y z)) ∧ (∀ P : Nat → Prop, P a → P b → P c → P x ∧ P y ∧ P z) ∧ (∀ i, (i = a ∨ i = b ∨ i = c) ↔ (i = x ∨ i = y ∨ i = z)) := by
  have go : ∀ x y z : Nat, x < y → y < z → (∀ i, (i = a ∨ i = b ∨ i = c) ↔ (i = x ∨ i = y ∨ i = z)) → ((a : Int) + b + c = x + y + z) → (∀ T : sT, (∀ u v, T u v = -1 → T v u = -1) → (sFree T a b c ↔ sFree T x y z)) → (∀ P : Nat → Prop, P a → P b → P c → P x ∧ P y ∧ P z) → ∃ x y z : Nat, x < y ∧ y < z ∧ m3 a b c = m3 x y z ∧ (∀ T : sT, sPut T a b c = sPut T x y z) ∧ (∀ T : sT, (∀ u v, T u v = -1 → T v u = -1) → (sFree T a b c ↔ sFree T x y z)) ∧ (∀ P : Nat → Prop, P a → P b → P c → P x ∧ P y ∧ P z) ∧ (∀ i, (i = a ∨ i = b ∨ i = c) ↔ (i = x ∨ i = y ∨ i = z)) := by
    intro x y z h1 h2 h3 h4 h5 h6
    refine ⟨x, y, z, h1, h2, ?_, fun T => ?_, h5, h6, h3⟩
    · apply Nat.eq_of_testBit_eq
      intro i
      rw [m3_test, m3_test, decide_eq_decide]
      exact h3 i
    · funext u v
      unfold sPut
      have e : sPr a b c u v ↔ sPr x y z u v := by unfold sPr; rw [h3 u, h3 v]
      by_cases g : sPr a b c u v
      · rw [if_pos g, if_pos (e.mp g)]; omega
      · rw [if_neg g, if_neg (fun z => g (e.mpr z))]
  have sf : ∀ (T : sT), (∀ u v, T u v = -1 → T v u = -1) → ∀ u v, (T u v = -1) = (T v u = -1) := fun T hT u v => propext ⟨hT u v, hT v u⟩
  rcases Nat.lt_or_gt_of_ne hab with h1 | h1
  · rcases Nat.lt_or_gt_of_ne hbc with h2 | h2
    · exact go a b c h1 h2 (fun i => Iff.rfl) (by omega) (fun T hT => Iff.rfl) (fun P p1 p2 p3 => ⟨p1, p2, p3⟩)
    · rcases Nat.lt_or_gt_of_ne hac with h3 | h3
      · exact go a c b h3 h2 (fun i => by omega) (by omega) (fun T hT => ⟨fun g => ⟨g.2.2, hT _ _ g.2.1, g.1⟩, fun g => ⟨g.2.2, hT _ _ g.2.1, g.1⟩⟩) (fun P p1 p2 p3 => ⟨p1, p3, p2⟩)
      · exact go c a b h3 h1 (fun i => by omega) (by omega) (fun T hT => ⟨fun g => ⟨hT _ _ g.2.2, g.1, hT _ _ g.2.1⟩, fun g => ⟨g.2.1, hT _ _ g.2.2, hT _ _ g.1⟩⟩) (fun P p1 p2 p3 => ⟨p3, p1, p2⟩)
  · rcases Nat.lt_or_gt_of_ne hac with h2 | h2
    · exact go b a c h1 h2 (fun i => by omega) (by omega) (fun T hT => ⟨fun g => ⟨hT _ _ g.1, g.2.2, g.2.1⟩, fun g => ⟨hT _ _ g.1, g.2.2, g.2.1⟩⟩) (fun P p1 p2 p3 => ⟨p2, p1, p3⟩)
    · rcases Nat.lt_or_gt_of_ne hbc with h3 | h3
      · exact go b c a h3 h2 (fun i => by omega) (by omega) (fun T hT => ⟨fun g => ⟨g.2.1, hT _ _ g.2.2, hT _ _ g.1⟩, fun g => ⟨hT _ _ g.2.2, g.1, hT _ _ g.2.1⟩⟩) (fun P p1 p2 p3 => ⟨p2, p3, p1⟩)
      · exact go c b a h3 h1 (fun i => by omega) (by omega) (fun T hT => ⟨fun g => ⟨hT _ _ g.2.1, hT _ _ g.1, hT _ _ g.2.2⟩, fun g => ⟨hT _ _ g.2.1, hT _ _ g.1, hT _ _ g.2.2⟩⟩) (fun P p1 p2 p3 => ⟨p3, p2, p1⟩)
theorem k_takU {d : Nat} {hp : amH} {R : xQ} {o V a b c : Nat} {T : sT} {s : Int32} (ho : bo o) (hH : bHk 84 bTT hp) (hB : bdOk hp o V T) (hs : s.toInt = ((m3 a b c : Nat) : Int)) (ha : a < V) (hb : b < V) (hc : c < V) (hab : ¬ a = b) (hbc : ¬ b = c) (hac : ¬ a = c) (hR : ∀ r : Int32, ((r.toInt = 1 ∧ sFree T a b c) ∨ (r.toInt = 0 ∧ ¬ sFree T a b c)) → R (.inl (some (.int r))) hp) : xK (d + 2) 13 [.ref o, .int s] hp R := by
  obtain ⟨x, y, z, g1, g2, g3, g4, g5, g6, -⟩ := srt hab hbc hac
  have f := g5 T (fun u v e => sy_free hB.2.1 e)
  obtain ⟨-, -, l3⟩ := g6 (fun i => i < V) ha hb hc
  exact k_tak ho hH hB (by rw [hs, g3]) g1 g2 l3 (fun r h => hR r (by rw [f]; exact h))
theorem k_bputU {d : Nat} {hp : amH} {R : xQ} {o V a b c : Nat} {T : sT} {s : Int32} (ho : bo o) (hH : bHk 84 bTT hp) (hB : bdOk hp o V T) (hs : s.toInt = ((m3 a b c : Nat) : Int)) (ha : a < V) (hb : b < V) (hc : c < V) (hab : ¬ a = b) (hbc : ¬ b = c) (hac : ¬ a = c) (hf : sFree T a b c)
    (hR : ∀ hp1, bHk 84 bTT hp1 → bFx [o + 1, o + 3] hp hp1 → bdOk hp1 o V (sPut T a b c) → R (.inl none) hp1) : xK (d + 2) 14 [.ref o, .int s] hp R := by
  obtain ⟨x, y, z, g1, g2, g3, g4, g5, g6, -⟩ := srt hab hbc hac
  have f := g5 T (fun u v e => sy_free hB.2.1 e)
  obtain ⟨-, -, l3⟩ := g6 (fun i => i < V) ha hb hc
  rw [g4 T] at hR
  exact k_bput ho hH hB (by rw [hs, g3]) g1 g2 l3 (f.mp hf) hR
theorem md_ne {V k p q : Nat} (hp : p < V) (hq : q < V) (h : ¬ p = q) : ¬ (p + k) % V = (q + k) % V := by
  intro e
  have e1 := Nat.div_add_mod (p + k) V
  have e2 := Nat.div_add_mod (q + k) V
  rw [e] at e1
  have : V * ((p + k) / V) + q = V * ((q + k) / V) + p := by omega
  rcases Nat.lt_trichotomy ((p + k) / V) ((q + k) / V) with g | g | g
  · have : V * ((p + k) / V + 1) ≤ V * ((q + k) / V) := Nat.mul_le_mul_left V g
    rw [Nat.mul_add] at this
    omega
  · rw [g] at this; omega
  · have : V * ((q + k) / V + 1) ≤ V * ((p + k) / V) := Nat.mul_le_mul_left V g
    rw [Nat.mul_add] at this
    omega
/-- all turns of a triple -/
theorem l21 {d : Nat} {hp0 : amH} {R : xQ} {o V a b c : Nat} {s : Int32} (ho : bo o) (hs : s.toInt = ((m3 a b c : Nat) : Int)) (ha : a < V) (hb : b < V) (hc : c < V) (hab : ¬ a = b) (hbc : ¬ b = c) (hac : ¬ a = c)
    {X : Option (sT × Nat)} (hR : ∀ (r : Int32) hp1, bHk 84 bTT hp1 → bFx [o + 1, o + 3] hp0 hp1 → (match X with
      | none => r.toInt = -1
      | some q => r.toInt = (q.2 : Int) ∧ bdOk hp1 o V q.1) → R (.inl (some (.int r))) hp1) :
    ∀ (f k n : Nat) (T : sT) (hp : amH) (m i : Int32) (v : Option Value), bHk 84 bTT hp → bFx [o + 1, o + 3] hp0 hp → bdOk hp o V T → f + k = V → n ≤ k → m.toInt = (n : Int) → i.toInt = (k : Int) → sDv V a b c f k T n = X → xV (d + 3) am_m21 4 [some (.ref o), some (.int s), some (.int m), some (.int i), v] [] hp R := by
  intro f
  induction f with
  | zero =>
    intro k n T hp m i v hH hF hB hk hn hm hi hX
    have hV := hB.2.1.2.1
    have b1 := hB.1
    have hX : some (T, n) = X := hX
    subst hX
    refine xild 5 ⟨u21, _, rfl⟩ rfl rfl ?_
    refine xald 6 ⟨u21, _, rfl⟩ rfl rfl ?_
    refine xgetC 9 hH ⟨u21, _, rfl⟩ rfl (bo_lt ho) (by decide) (bo_T ho) rfl (by decide) (fun z6 h6 => ?_)
    refine xcmp_ge 12 ⟨u21, _, rfl⟩ rfl (fun c9 => ?_) (fun c9 => ?_)
    · refine xild 63 ⟨u21, _, rfl⟩ rfl rfl ?_
      exact xret ⟨u21, _, rfl⟩ rfl (hR _ hp hH hF ⟨hm, hB⟩)
    · omega
  | succ f ih =>
    intro k n T hp m i v hH hF hB hk hn hm hi hX
    have hV := hB.2.1.2.1
    have b1 := hB.1
    have hlt := m3_lt (x := a) (y := b) (z := c) (by omega) (by omega) (by omega)
    have hrot := rot_m3 (V := V) (k := k) hV (by omega) ha hb hc
    unfold sDv at hX
    refine xild 5 ⟨u21, _, rfl⟩ rfl rfl ?_
    refine xald 6 ⟨u21, _, rfl⟩ rfl rfl ?_
    refine xgetC 9 hH ⟨u21, _, rfl⟩ rfl (bo_lt ho) (by decide) (bo_T ho) rfl (by decide) (fun z6 h6 => ?_)
    refine xcmp_ge 12 ⟨u21, _, rfl⟩ rfl (fun c9 => ?_) (fun c9 => ?_)
    · omega
    · refine xild 13 ⟨u21, _, rfl⟩ rfl rfl ?_
      refine xild 14 ⟨u21, _, rfl⟩ rfl rfl ?_
      refine xald 15 ⟨u21, _, rfl⟩ rfl rfl ?_
      refine xgetC 18 hH ⟨u21, _, rfl⟩ rfl (bo_lt ho) (by decide) (bo_T ho) rfl (by decide) (fun z15 h15 => ?_)
      refine xcallS 21 [.int _, .int _, .int _] [] hH ⟨u21, _, rfl⟩ rfl rfl rfl rfl rfl (k_rot hs hlt hi (h15.trans b1) (by omega) hV (fun z18 h18 => ⟨_, rfl, ?_⟩))
      refine xist2 23 ⟨u21, _, rfl⟩ rfl rfl ?_
      refine xild 24 ⟨u21, _, rfl⟩ rfl rfl ?_
      refine xif_le 27 ⟨u21, _, rfl⟩ rfl (fun c24 => ?_) (fun c24 => ?_)
      · rw [if_neg (by omega)] at hX
        refine xald 37 ⟨u21, _, rfl⟩ rfl rfl ?_
        refine xild2 39 ⟨u21, _, rfl⟩ rfl rfl ?_
        refine xcallC 42 (o := o) [.int _] [] hH ⟨u21, _, rfl⟩ rfl rfl (bo_lt ho) (bo_T ho) (by decide) rfl ⟨rfl, rfl, rfl, rfl⟩ rfl (k_takU ho hH hB (by rw [h18, hrot]) (Nat.mod_lt _ (by omega)) (Nat.mod_lt _ (by omega)) (Nat.mod_lt _ (by omega)) (md_ne ha hb hab) (md_ne hb hc hbc) (md_ne ha hc hac) (fun z39 h39 => ⟨_, rfl, ?_⟩))
        refine xif_ne 45 ⟨u21, _, rfl⟩ rfl (fun c42 => ?_) (fun c42 => ?_)
        · have fr : sFree T ((a + k) % V) ((b + k) % V) ((c + k) % V) := by rcases h39 with g | g; exact g.2; omega
          rw [if_pos fr] at hX
          refine xald 48 ⟨u21, _, rfl⟩ rfl rfl ?_
          refine xild2 50 ⟨u21, _, rfl⟩ rfl rfl ?_
          refine xcallC 53 (o := o) [.int _] [] hH ⟨u21, _, rfl⟩ rfl rfl (bo_lt ho) (bo_T ho) (by decide) rfl ⟨rfl, rfl, rfl, rfl⟩ rfl (k_bputU ho hH hB (by rw [h18, hrot]) (Nat.mod_lt _ (by omega)) (Nat.mod_lt _ (by omega)) (Nat.mod_lt _ (by omega)) (md_ne ha hb hab) (md_ne hb hc hbc) (md_ne ha hc hac) fr (fun hp50 hH50 F50 B50 => ⟨_, rfl, ?_⟩))
          refine xinc 56 (1) ⟨u21, _, rfl⟩ rfl rfl rfl (by decide) (by omega) (by omega) (fun z53 h53 => ?_)
          refine xinc 59 (1) ⟨u21, _, rfl⟩ rfl rfl rfl (by decide) (by omega) (by omega) (fun z56 h56 => ?_)
          refine xgoto ⟨u21, _, rfl⟩ ?_
          exact ih (k + 1) (n + 1) _ hp50 _ _ _ hH50 (hF.trans F50) B50 (by omega) (by omega) (by omega) (by omega) hX
        · refine xcst 46 (-1) ⟨u21, _, rfl⟩ rfl (by decide) (fun z45 h45 => ?_)
          have nf : ¬ sFree T ((a + k) % V) ((b + k) % V) ((c + k) % V) := by rcases h39 with g | g; omega; exact g.2
          rw [if_neg nf] at hX
          subst hX
          exact xret ⟨u21, _, rfl⟩ rfl (hR _ hp hH hF h45)
      · refine xild2 29 ⟨u21, _, rfl⟩ rfl rfl ?_
        refine xild 30 ⟨u21, _, rfl⟩ rfl rfl ?_
        refine xcmp_ne 33 ⟨u21, _, rfl⟩ rfl (fun c30 => ?_) (fun c30 => ?_)
        · rw [if_neg (fun z => c30 (by rw [h18, hrot, hs, z.2]))] at hX
          refine xald 37 ⟨u21, _, rfl⟩ rfl rfl ?_
          refine xild2 39 ⟨u21, _, rfl⟩ rfl rfl ?_
          refine xcallC 42 (o := o) [.int _] [] hH ⟨u21, _, rfl⟩ rfl rfl (bo_lt ho) (bo_T ho) (by decide) rfl ⟨rfl, rfl, rfl, rfl⟩ rfl (k_takU ho hH hB (by rw [h18, hrot]) (Nat.mod_lt _ (by omega)) (Nat.mod_lt _ (by omega)) (Nat.mod_lt _ (by omega)) (md_ne ha hb hab) (md_ne hb hc hbc) (md_ne ha hc hac) (fun z39 h39 => ⟨_, rfl, ?_⟩))
          refine xif_ne 45 ⟨u21, _, rfl⟩ rfl (fun c42 => ?_) (fun c42 => ?_)
          · have fr : sFree T ((a + k) % V) ((b + k) % V) ((c + k) % V) := by rcases h39 with g | g; exact g.2; omega
            rw [if_pos fr] at hX
            refine xald 48 ⟨u21, _, rfl⟩ rfl rfl ?_
            refine xild2 50 ⟨u21, _, rfl⟩ rfl rfl ?_
            refine xcallC 53 (o := o) [.int _] [] hH ⟨u21, _, rfl⟩ rfl rfl (bo_lt ho) (bo_T ho) (by decide) rfl ⟨rfl, rfl, rfl, rfl⟩ rfl (k_bputU ho hH hB (by rw [h18, hrot]) (Nat.mod_lt _ (by omega)) (Nat.mod_lt _ (by omega)) (Nat.mod_lt _ (by omega)) (md_ne ha hb hab) (md_ne hb hc hbc) (md_ne ha hc hac) fr (fun hp50 hH50 F50 B50 => ⟨_, rfl, ?_⟩))
            refine xinc 56 (1) ⟨u21, _, rfl⟩ rfl rfl rfl (by decide) (by omega) (by omega) (fun z53 h53 => ?_)
            refine xinc 59 (1) ⟨u21, _, rfl⟩ rfl rfl rfl (by decide) (by omega) (by omega) (fun z56 h56 => ?_)
            refine xgoto ⟨u21, _, rfl⟩ ?_
            exact ih (k + 1) (n + 1) _ hp50 _ _ _ hH50 (hF.trans F50) B50 (by omega) (by omega) (by omega) (by omega) hX
          · refine xcst 46 (-1) ⟨u21, _, rfl⟩ rfl (by decide) (fun z45 h45 => ?_)
            have nf : ¬ sFree T ((a + k) % V) ((b + k) % V) ((c + k) % V) := by rcases h39 with g | g; omega; exact g.2
            rw [if_neg nf] at hX
            subst hX
            exact xret ⟨u21, _, rfl⟩ rfl (hR _ hp hH hF h45)
        · refine xgoto ⟨u21, _, rfl⟩ ?_
          refine xild 63 ⟨u21, _, rfl⟩ rfl rfl ?_
          rw [if_pos ⟨by omega, by rw [← hrot]; omega⟩] at hX
          subst hX
          exact xret ⟨u21, _, rfl⟩ rfl (hR _ hp hH hF ⟨hm, hB⟩)
theorem k_pat {d : Nat} {hp : amH} {R : xQ} {o V a b c : Nat} {T : sT} {s : Int32} (ho : bo o) (hH : bHk 84 bTT hp) (hB : bdOk hp o V T) (hs : s.toInt = ((m3 a b c : Nat) : Int)) (ha : a < V) (hb : b < V) (hc : c < V) (hab : ¬ a = b) (hbc : ¬ b = c) (hac : ¬ a = c)
    (hR : ∀ (r : Int32) hp1, bHk 84 bTT hp1 → bFx [o + 1, o + 3] hp hp1 → (match sDv V a b c V 0 T 0 with
      | none => r.toInt = -1
      | some q => r.toInt = (q.2 : Int) ∧ bdOk hp1 o V q.1) → R (.inl (some (.int r))) hp1) : xK (d + 3) 21 [.ref o, .int s] hp R := by
  refine xin (M := am_m21) rfl rfl (by unfold xAv; simp [amOk, bo_lt ho, Value.category]) ?_
  refine xcst 1 (0) ⟨u21, _, rfl⟩ rfl (by decide) (fun z0 h0 => ?_)
  refine xist 2 ⟨u21, _, rfl⟩ rfl rfl ?_
  refine xcst 3 (0) ⟨u21, _, rfl⟩ rfl (by decide) (fun z2 h2 => ?_)
  refine xist 4 ⟨u21, _, rfl⟩ rfl rfl ?_
  refine xpad 1 ?_
  exact l21 ho hs ha hb hc hab hbc hac hR V 0 0 T hp _ _ _ hH bFx.refl hB (by omega) (by omega) (by omega) (by omega) rfl
end
/-! ##### 19.m.009.26h ##### -/
section
/-! ===== the class's boards: laid empty ===== -/
theorem op_E {V p : Nat} (hV : V ≤ 15) : opN V sE p = if p < V then ndif (2 ^ V - 1) (2 ^ p) else 0 := by
  apply Nat.eq_of_testBit_eq
  intro i
  rw [op_test hV]
  split
  · next h =>
    rw [nd_test, p2_test, Nat.testBit_two_pow_sub_one]
    by_cases e : i = p
    · subst e; simp
    · have e2 : ¬ p = i := fun z => e z.symm
      simp [h, e, e2, sE]
  · next h => rw [decide_eq_false (by omega), Nat.zero_testBit]
theorem l1b {d : Nat} {hp0 : amH} {R : xQ} {o V : Nat} {a : Int32} {v : Option Value} (ho : bo o) (hV : V ≤ 15) (hV3 : 3 ≤ V) (hR : ∀ hp1, bHk 84 bTT hp1 → bFx [o, o + 1, o + 3] hp0 hp1 → bdOk hp1 o V sE → rN hp1 o 1 = 0 → R (.inl none) hp1) :
    ∀ (jj q : Nat) (i : Int32) (hp : amH), bHk 84 bTT hp → bFx [o, o + 1, o + 3] hp0 hp → rN hp o 0 = (V : Int) → rN hp o 1 = 0 → (∀ j, j < 225 → rN hp (o + 1) j = -1) → (∀ p, p < q → rN hp (o + 3) p = ((opN V sE p : Nat) : Int)) → i.toInt = (q : Int) → q + jj = 15 → xV (d + 1) am_m1 45 [some (.ref o), some (.int a), some (.int i)] [] hp R := by
  intro jj
  induction jj with
  | zero =>
    intro q i hp hH hF h0 h1 h2 h3 hi hq
    refine xild 46 ⟨u1, _, rfl⟩ rfl rfl ?_
    refine xald 47 ⟨u1, _, rfl⟩ rfl rfl ?_
    refine xgetD 50 (o + 3) hH ⟨u1, _, rfl⟩ rfl (bo_lt ho) (by decide) (bo_T ho) rfl (by decide) ?_
    refine xlen 51 hH ⟨u1, _, rfl⟩ rfl (bo_lt3 ho) (bo_T3 ho) (by decide) (by decide) (fun z50 h50 => ?_)
    refine xcmp_ge 54 ⟨u1, _, rfl⟩ rfl (fun c51 => ?_) (fun c51 => ?_)
    · exact xretV ⟨u1, _, rfl⟩ rfl (hR hp hH hF ⟨h0, sOk_E hV3 hV, fun u v hu hv => by rw [h2 _ (by omega)]; rfl, fun u v _ => rfl, fun p hp => h3 p (by omega)⟩ h1)
    · omega
  | succ jj ih =>
    intro q i hp hH hF h0 h1 h2 h3 hi hq
    have oE := op_E (p := q) hV
    have ol := op_lt V sE q
    have hsl := (i_shlV (o := 1) (c := 0) (V := 0) rfl rfl (by decide))
    have hp15 : 2 ^ V - 1 < 32768 := by
      have : 2 ^ V ≤ 2 ^ 15 := Nat.pow_le_pow_right (by decide) hV
      omega
    refine xild 46 ⟨u1, _, rfl⟩ rfl rfl ?_
    refine xald 47 ⟨u1, _, rfl⟩ rfl rfl ?_
    refine xgetD 50 (o + 3) hH ⟨u1, _, rfl⟩ rfl (bo_lt ho) (by decide) (bo_T ho) rfl (by decide) ?_
    refine xlen 51 hH ⟨u1, _, rfl⟩ rfl (bo_lt3 ho) (bo_T3 ho) (by decide) (by decide) (fun z50 h50 => ?_)
    refine xcmp_ge 54 ⟨u1, _, rfl⟩ rfl (fun c51 => ?_) (fun c51 => ?_)
    · omega
    · refine xald 55 ⟨u1, _, rfl⟩ rfl rfl ?_
      refine xgetD 58 (o + 3) hH ⟨u1, _, rfl⟩ rfl (bo_lt ho) (by decide) (bo_T ho) rfl (by decide) ?_
      refine xild 59 ⟨u1, _, rfl⟩ rfl rfl ?_
      refine xild 60 ⟨u1, _, rfl⟩ rfl rfl ?_
      refine xald 61 ⟨u1, _, rfl⟩ rfl rfl ?_
      refine xgetC 64 hH ⟨u1, _, rfl⟩ rfl (bo_lt ho) (by decide) (bo_T ho) rfl (by decide) (fun z61 h61 => ?_)
      refine xcmp_ge 67 ⟨u1, _, rfl⟩ rfl (fun c64 => ?_) (fun c64 => ?_)
      · rw [if_neg (by omega)] at oE
        refine xcst 81 (0) ⟨u1, _, rfl⟩ rfl (by decide) (fun z80 h80 => ?_)
        refine xiast 82 (i).toInt.toNat hH ⟨u1, _, rfl⟩ rfl (bo_lt3 ho) (bo_T3 ho) (by omega) (by omega) (by omega) (by omega) (fun hp81 hH81 U81 => ?_)
        have s81 := U81.1
        refine xinc 85 (1) ⟨u1, _, rfl⟩ rfl rfl rfl (by decide) (by omega) (by omega) (fun z82 h82 => ?_)
        refine xgoto ⟨u1, _, rfl⟩ ?_
        exact ih (q + 1) _ hp81 hH81 (hF.trans (bFx_U U81 (by simp))) (by rw [rU_ne U81 (by first | decide | exact (fun z => absurd z.1 (by decide)) | omega)]; exact h0) (by rw [rU_ne U81 (by first | decide | exact (fun z => absurd z.1 (by decide)) | omega)]; exact h1) (fun j hj => by rw [rU_ne U81 (by first | decide | exact (fun z => absurd z.1 (by decide)) | omega)]; exact h2 j hj) (fun p hp => by rcases Nat.lt_or_ge p q with g | g; rw [rU_ne U81 (by first | decide | exact (fun z => absurd z.1 (by decide)) | omega)]; exact h3 p g; rw [show p = q by omega]; have e := U81.1; rw [show i.toInt.toNat = q by omega] at e; rw [e]; omega) (by omega) (by omega)
      · rw [if_pos (by omega)] at oE
        refine xald 68 ⟨u1, _, rfl⟩ rfl rfl ?_
        refine xcallC 71 (o := o) [] [.int _, .ref (o + 3)] hH ⟨u1, _, rfl⟩ rfl rfl (bo_lt ho) (bo_T ho) (by decide) rfl ⟨rfl, rfl, rfl, rfl⟩ (by simp [amOkS, amOk, bo_lt ho, bo_lt1 ho, bo_lt2 ho, bo_lt3 ho, bo_lt4 ho]) (k_all ho hH h0 (fun z68 h68 => ⟨_, rfl, ?_⟩))
        refine xcst 72 (1) ⟨u1, _, rfl⟩ rfl (by decide) (fun z71 h71 => ?_)
        refine xild 73 ⟨u1, _, rfl⟩ rfl rfl ?_
        refine xshl 74 ⟨u1, _, rfl⟩ rfl ?_
        refine xcst 75 (-1) ⟨u1, _, rfl⟩ rfl (by decide) (fun z74 h74 => ?_)
        refine xxor 76 ⟨u1, _, rfl⟩ rfl ?_
        refine xand 77 ⟨u1, _, rfl⟩ rfl ?_
        have w := i_nd h68 (i_shl (n := q) h71 (by omega) (by omega)).1 hp15 (by have := (i_shl (n := q) h71 (show i.toInt = (q : Int) by omega) (by omega)).2; omega) h74
        refine xgoto ⟨u1, _, rfl⟩ ?_
        refine xiast 82 (i).toInt.toNat hH ⟨u1, _, rfl⟩ rfl (bo_lt3 ho) (bo_T3 ho) (by omega) (by omega) (by omega) (by omega) (fun hp81 hH81 U81 => ?_)
        have s81 := U81.1
        refine xinc 85 (1) ⟨u1, _, rfl⟩ rfl rfl rfl (by decide) (by omega) (by omega) (fun z82 h82 => ?_)
        refine xgoto ⟨u1, _, rfl⟩ ?_
        exact ih (q + 1) _ hp81 hH81 (hF.trans (bFx_U U81 (by simp))) (by rw [rU_ne U81 (by first | decide | exact (fun z => absurd z.1 (by decide)) | omega)]; exact h0) (by rw [rU_ne U81 (by first | decide | exact (fun z => absurd z.1 (by decide)) | omega)]; exact h1) (fun j hj => by rw [rU_ne U81 (by first | decide | exact (fun z => absurd z.1 (by decide)) | omega)]; exact h2 j hj) (fun p hp => by rcases Nat.lt_or_ge p q with g | g; rw [rU_ne U81 (by first | decide | exact (fun z => absurd z.1 (by decide)) | omega)]; exact h3 p g; rw [show p = q by omega]; have e := U81.1; rw [show i.toInt.toNat = q by omega] at e; rw [e]; omega) (by omega) (by omega)
theorem l1a {d : Nat} {hp0 : amH} {R : xQ} {o V : Nat} {a : Int32} {v : Option Value} (ho : bo o) (hV : V ≤ 15) (hV3 : 3 ≤ V) (hR : ∀ hp1, bHk 84 bTT hp1 → bFx [o, o + 1, o + 3] hp0 hp1 → bdOk hp1 o V sE → rN hp1 o 1 = 0 → R (.inl none) hp1) :
    ∀ (jj q : Nat) (i : Int32) (hp : amH), bHk 84 bTT hp → bFx [o, o + 1, o + 3] hp0 hp → rN hp o 0 = (V : Int) → rN hp o 1 = 0 → (∀ j, j < q → rN hp (o + 1) j = -1) → i.toInt = (q : Int) → q + jj = 225 → xV (d + 1) am_m1 21 [some (.ref o), some (.int a), some (.int i)] [] hp R := by
  intro jj
  induction jj with
  | zero =>
    intro q i hp hH hF h0 h1 h2 hi hq
    refine xild 22 ⟨u1, _, rfl⟩ rfl rfl ?_
    refine xald 23 ⟨u1, _, rfl⟩ rfl rfl ?_
    refine xgetD 26 (o + 1) hH ⟨u1, _, rfl⟩ rfl (bo_lt ho) (by decide) (bo_T ho) rfl (by decide) ?_
    refine xlen 27 hH ⟨u1, _, rfl⟩ rfl (bo_lt1 ho) (bo_T1 ho) (by decide) (by decide) (fun z26 h26 => ?_)
    refine xcmp_ge 30 ⟨u1, _, rfl⟩ rfl (fun c27 => ?_) (fun c27 => ?_)
    · refine xcst 44 (0) ⟨u1, _, rfl⟩ rfl (by decide) (fun z43 h43 => ?_)
      refine xist 45 ⟨u1, _, rfl⟩ rfl rfl ?_
      exact l1b (v := v) ho hV hV3 hR 15 0 _ hp hH hF h0 h1 (fun j hj => h2 j (by omega)) (fun p hp => by omega) (by omega) (by omega)
    · omega
  | succ jj ih =>
    intro q i hp hH hF h0 h1 h2 hi hq
    refine xild 22 ⟨u1, _, rfl⟩ rfl rfl ?_
    refine xald 23 ⟨u1, _, rfl⟩ rfl rfl ?_
    refine xgetD 26 (o + 1) hH ⟨u1, _, rfl⟩ rfl (bo_lt ho) (by decide) (bo_T ho) rfl (by decide) ?_
    refine xlen 27 hH ⟨u1, _, rfl⟩ rfl (bo_lt1 ho) (bo_T1 ho) (by decide) (by decide) (fun z26 h26 => ?_)
    refine xcmp_ge 30 ⟨u1, _, rfl⟩ rfl (fun c27 => ?_) (fun c27 => ?_)
    · omega
    · refine xald 31 ⟨u1, _, rfl⟩ rfl rfl ?_
      refine xgetD 34 (o + 1) hH ⟨u1, _, rfl⟩ rfl (bo_lt ho) (by decide) (bo_T ho) rfl (by decide) ?_
      refine xild 35 ⟨u1, _, rfl⟩ rfl rfl ?_
      refine xcst 36 (-1) ⟨u1, _, rfl⟩ rfl (by decide) (fun z35 h35 => ?_)
      refine xiast 37 (i).toInt.toNat hH ⟨u1, _, rfl⟩ rfl (bo_lt1 ho) (bo_T1 ho) (by omega) (by omega) (by omega) (by omega) (fun hp36 hH36 U36 => ?_)
      have s36 := U36.1
      refine xinc 40 (1) ⟨u1, _, rfl⟩ rfl rfl rfl (by decide) (by omega) (by omega) (fun z37 h37 => ?_)
      refine xgoto ⟨u1, _, rfl⟩ ?_
      exact ih (q + 1) _ hp36 hH36 (hF.trans (bFx_U U36 (by simp))) (by rw [rU_ne U36 (by first | decide | exact (fun z => absurd z.1 (by decide)) | omega)]; exact h0) (by rw [rU_ne U36 (by first | decide | exact (fun z => absurd z.1 (by decide)) | omega)]; exact h1) (fun j hj => by rcases Nat.lt_or_ge j q with g | g; rw [rU_ne U36 (by first | decide | exact (fun z => absurd z.1 (by decide)) | omega)]; exact h2 j g; rw [show j = q by omega]; have e := U36.1; rw [show i.toInt.toNat = q by omega] at e; omega) (by omega) (by omega)
theorem k_rst {d : Nat} {hp : amH} {R : xQ} {o V : Nat} {a : Int32} (ho : bo o) (hH : bHk 84 bTT hp) (ha : a.toInt = (V : Int)) (hV3 : 3 ≤ V) (hV : V ≤ 15) (hR : ∀ hp1, bHk 84 bTT hp1 → bFx [o, o + 1, o + 3] hp hp1 → bdOk hp1 o V sE → rN hp1 o 1 = 0 → R (.inl none) hp1) : xK (d + 1) 1 [.ref o, .int a] hp R := by
  refine xin (M := am_m1) rfl rfl (by unfold xAv; simp [amOk, bo_lt ho, Value.category]) ?_
  refine xald 1 ⟨u1, _, rfl⟩ rfl rfl ?_
  refine xcst 2 (3) ⟨u1, _, rfl⟩ rfl (by decide) (fun z1 h1 => ?_)
  refine xild 3 ⟨u1, _, rfl⟩ rfl rfl ?_
  refine xbip 5 (15) ⟨u1, _, rfl⟩ rfl (by decide) (fun z3 h3 => ?_)
  refine xcallS 8 [.int _, .int _] [.int _, .ref (o)] hH ⟨u1, _, rfl⟩ rfl rfl rfl (by simp [amOkS, amOk, bo_lt ho, bo_lt1 ho, bo_lt2 ho, bo_lt3 ho, bo_lt4 ho]) rfl (k_min (fun z5 h5 => ⟨_, rfl, ?_⟩))
  refine xcallS 11 [.int _, .int _] [.ref (o)] hH ⟨u1, _, rfl⟩ rfl rfl rfl (by simp [amOkS, amOk, bo_lt ho, bo_lt1 ho, bo_lt2 ho, bo_lt3 ho, bo_lt4 ho]) rfl (k_max (fun z8 h8 => ⟨_, rfl, ?_⟩))
  refine xputC 14 hH ⟨u1, _, rfl⟩ rfl (bo_lt ho) (by decide) (bo_T ho) rfl (by decide) ⟨rfl, rfl⟩ (by omega) (by omega) (fun hp11 hH11 U11 => ?_)
  have s11 := U11.1
  have n11_o_1 : rN hp11 (o) 1 = rN hp (o) 1 := rU_ne U11 (by first | decide | exact (fun z => absurd z.1 (by decide)) | omega)
  refine xald 15 ⟨u1, _, rfl⟩ rfl rfl ?_
  refine xcst 16 (0) ⟨u1, _, rfl⟩ rfl (by decide) (fun z15 h15 => ?_)
  refine xputC 19 hH11 ⟨u1, _, rfl⟩ rfl (bo_lt ho) (by decide) (bo_T ho) rfl (by decide) ⟨rfl, rfl⟩ (by omega) (by omega) (fun hp16 hH16 U16 => ?_)
  have s16 := U16.1
  have n16_o_0 : rN hp16 (o) 0 = rN hp11 (o) 0 := rU_ne U16 (by first | decide | exact (fun z => absurd z.1 (by decide)) | omega)
  refine xcst 20 (0) ⟨u1, _, rfl⟩ rfl (by decide) (fun z19 h19 => ?_)
  refine xist 21 ⟨u1, _, rfl⟩ rfl rfl ?_
  exact l1a (v := none) ho hV hV3 hR 225 0 _ hp16 hH16 ((bFx_U U11 (by simp)).trans (bFx_U U16 (by simp))) (by omega) (by omega) (fun j hj => by omega) (by omega) (by omega)
end
