/-! ===== the class's boards ===== -/
theorem u1 : bUp 0 am_m1.1 = true := by decide +kernel
theorem u3 : bUp 0 am_m3.1 = true := by decide +kernel
theorem u4 : bUp 0 am_m4.1 = true := by decide +kernel
theorem u7 : bUp 0 am_m7.1 = true := by decide +kernel
theorem u8 : bUp 0 am_m8.1 = true := by decide +kernel
theorem u13 : bUp 0 am_m13.1 = true := by decide +kernel
theorem u14 : bUp 0 am_m14.1 = true := by decide +kernel
theorem u15 : bUp 0 am_m15.1 = true := by decide +kernel
theorem u16 : bUp 0 am_m16.1 = true := by decide +kernel
theorem u17 : bUp 0 am_m17.1 = true := by decide +kernel
theorem u20 : bUp 0 am_m20.1 = true := by decide +kernel
theorem u19 : bUp 0 am_m19.1 = true := by decide +kernel
theorem u18 : bUp 0 am_m18.1 = true := by decide +kernel
theorem u21 : bUp 0 am_m21.1 = true := by decide +kernel
abbrev bo (o : Nat) : Prop := o = 3 ∨ o = 8
theorem bo_T {o : Nat} (ho : bo o) : bTT o = some (0, 6, [.inl (2147483648, 2147483663), .inl (2147483648, 2147483683), .inr (.inr [o + 1]), .inr (.inr [o + 2]), .inr (.inr [o + 3]), .inr (.inr [o + 4])]) := by rcases ho with rfl | rfl <;> rfl
theorem bo_T1 {o : Nat} (ho : bo o) : bTT (o + 1) = some (32, 225, [.inl (0, 4294967295)]) := by rcases ho with rfl | rfl <;> rfl
theorem bo_T2 {o : Nat} (ho : bo o) : bTT (o + 2) = some (32, 225, [.inl (0, 4294967295)]) := by rcases ho with rfl | rfl <;> rfl
theorem bo_T3 {o : Nat} (ho : bo o) : bTT (o + 3) = some (32, 15, [.inl (0, 4294967295)]) := by rcases ho with rfl | rfl <;> rfl
theorem bo_T4 {o : Nat} (ho : bo o) : bTT (o + 4) = some (32, 35, [.inl (0, 4294967295)]) := by rcases ho with rfl | rfl <;> rfl
theorem bo_lt {o : Nat} (ho : bo o) : o < 84 := by omega
theorem bo_lt1 {o : Nat} (ho : bo o) : o + 1 < 84 := by omega
theorem bo_lt2 {o : Nat} (ho : bo o) : o + 2 < 84 := by omega
theorem bo_lt3 {o : Nat} (ho : bo o) : o + 3 < 84 := by omega
theorem bo_lt4 {o : Nat} (ho : bo o) : o + 4 < 84 := by omega
/-- a set as a mask -/
def bitsOf (P : Nat → Bool) : Nat → Nat
  | 0 => 0
  | n + 1 => if P n = true then bitsOf P n ||| 2 ^ n else bitsOf P n
theorem bits_test (P : Nat → Bool) (i : Nat) : ∀ n, (bitsOf P n).testBit i = (decide (i < n) && P i)
  | 0 => by simp [bitsOf]
  | n + 1 => by
    have ih := bits_test P i n
    unfold bitsOf
    by_cases e : i = n
    · subst e
      cases h : P i
      · simp [h, ih]
      · simp [h, Nat.testBit_or, ih, Nat.testBit_two_pow_self]
    · have e2 : (decide (i < n + 1)) = decide (i < n) := by
        rw [decide_eq_decide]; omega
      split
      · rw [Nat.testBit_or, ih, Nat.testBit_two_pow_of_ne (fun z => e z.symm), e2, Bool.or_false]
      · rw [ih, e2]
theorem bits_lt (P : Nat → Bool) : ∀ n, bitsOf P n < 2 ^ n
  | 0 => by simp [bitsOf]
  | n + 1 => by
    have ih := bits_lt P n
    unfold bitsOf
    have h2 : 2 ^ n < 2 ^ (n + 1) := Nat.pow_lt_pow_right (by decide) (Nat.lt_succ_self n)
    split
    · exact Nat.or_lt_two_pow (by omega) h2
    · omega
/-- the points with which p isn't covered -/
def opN (V : Nat) (T : sT) (p : Nat) : Nat := bitsOf (fun q => decide (p < V ∧ q < V ∧ ¬ p = q ∧ T p q = -1)) 15
theorem op_test {V : Nat} {T : sT} {p i : Nat} (hV : V ≤ 15) : (opN V T p).testBit i = decide (p < V ∧ i < V ∧ ¬ p = i ∧ T p i = -1) := by
  unfold opN
  rw [bits_test]
  by_cases h : p < V ∧ i < V ∧ ¬ p = i ∧ T p i = -1
  · rw [decide_eq_true h, decide_eq_true (by omega : i < 15)]; rfl
  · rw [decide_eq_false h, Bool.and_false]
theorem op_lt (V : Nat) (T : sT) (p : Nat) : opN V T p < 32768 := bits_lt _ 15
/-- without some -/
def ndif (m n : Nat) : Nat := m ^^^ (m &&& n)
theorem nd_test (m n i : Nat) : (ndif m n).testBit i = (m.testBit i && !n.testBit i) := by
  unfold ndif
  rw [Nat.testBit_xor, Nat.testBit_and]
  cases m.testBit i <;> cases n.testBit i <;> rfl
theorem nd_lt {m n : Nat} (h : m < 32768) : ndif m n < 32768 := Nat.xor_lt_two_pow (n := 15) h (Nat.lt_of_le_of_lt Nat.and_le_left h)
theorem i_nd {x y z : Int32} {m n : Nat} (hx : x.toInt = (m : Int)) (hy : y.toInt = (n : Int)) (hm : m < 32768) (hn : n < 2147483648) (hz : z.toInt = -1) : (x &&& (y ^^^ z)).toInt = ((ndif m n : Nat) : Int) := by
  have e : z = -1 := Int32.toInt_inj.mp hz
  subst e
  have e1 := bN_t hx
  have e2 := bN_t hy
  have l := nd_lt (n := n) hm
  have e3 : bN (x &&& (y ^^^ -1)) = ndif m n := by
    apply Nat.eq_of_testBit_eq
    intro i
    rw [nd_test]
    unfold bN at *
    rw [Int32.toBitVec_and, Int32.toBitVec_xor, BitVec.toNat_and, BitVec.toNat_xor, e1, e2, Nat.testBit_and, Nat.testBit_xor]
    rcases Nat.lt_or_ge i 32 with g | g
    · have : (BitVec.toNat (Int32.toBitVec (-1))).testBit i = true := by
        have : BitVec.toNat (Int32.toBitVec (-1)) = 2 ^ 32 - 1 := by decide
        rw [this, Nat.testBit_two_pow_sub_one]
        exact decide_eq_true g
      rw [this, Bool.xor_true]
    · have : m.testBit i = false := Nat.testBit_lt_two_pow (Nat.lt_of_lt_of_le hm (Nat.le_trans (by decide : 32768 ≤ 2 ^ 32) (Nat.pow_le_pow_right (by decide) g)))
      rw [this, Bool.false_and, Bool.false_and]
  exact by rw [t_bN (by omega), e3]
/-- a board that is a system -/
def bdOk (hp : amH) (o V : Nat) (T : sT) : Prop := rN hp o 0 = (V : Int) ∧ sOk V T ∧ (∀ u v, u < 15 → v < 15 → rN hp (o + 1) (15 * u + v) = T u v) ∧ (∀ u v, ¬ (u < 15 ∧ v < 15) → T u v = -1) ∧ ∀ p, p < 15 → rN hp (o + 3) p = ((opN V T p : Nat) : Int)
/-- which cells are written -/
def bFx (W : List Nat) (hp hp1 : amH) : Prop := ∀ c k, ¬ c ∈ W → bFld hp1 c k = bFld hp c k
theorem bFx.refl {W : List Nat} {hp : amH} : bFx W hp hp := fun _ _ _ => rfl
theorem bFx.trans {W : List Nat} {a b c : amH} (h1 : bFx W a b) (h2 : bFx W b c) : bFx W a c := fun i k e => (h2 i k e).trans (h1 i k e)
theorem bFx.mono {W W1 : List Nat} {a b : amH} (h : bFx W a b) (hW : ∀ c, c ∈ W → c ∈ W1) : bFx W1 a b := fun i k e => h i k (fun z => e (hW i z))
theorem bFx_U {W : List Nat} {hp hp1 : amH} {c i : Nat} {m : Int} (U : rU hp hp1 c i m) (h : c ∈ W) : bFx W hp hp1 := fun c1 k e => U.2 c1 k (fun z => e (by rw [z.1]; exact h))
theorem bFx_n {W : List Nat} {hp hp1 : amH} (F : bFx W hp hp1) {c i : Nat} (h : ¬ c ∈ W) : rN hp1 c i = rN hp c i := rN_eq (F c i h)
theorem bdOk_fr {hp hp1 : amH} {o V : Nat} {T : sT} (h : bdOk hp o V T) (h0 : rN hp1 o 0 = rN hp o 0) (h1 : ∀ i, rN hp1 (o + 1) i = rN hp (o + 1) i) (h3 : ∀ i, rN hp1 (o + 3) i = rN hp (o + 3) i) : bdOk hp1 o V T :=
  ⟨by rw [h0]; exact h.1, h.2.1, fun u v hu hv => by rw [h1]; exact h.2.2.1 u v hu hv, h.2.2.2.1, fun p hp => by rw [h3]; exact h.2.2.2.2 p hp⟩
theorem b_pts {hp : amH} (hH : bHk 84 bTT hp) {o : Nat} (ho : bo o) : 0 ≤ rN hp o 0 ∧ rN hp o 0 ≤ 15 ∧ 0 ≤ rN hp o 1 ∧ rN hp o 1 ≤ 35 := by
  have h1 := rb_c hH (c := o) (f := 0) (bo_lt ho) (bo_T ho) rfl (by decide)
  have h2 := rb_c hH (c := o) (f := 1) (bo_lt ho) (bo_T ho) rfl (by decide)
  omega
theorem k_isp {d : Nat} {hp : amH} {R : xQ} {o : Nat} {a : Int32} (ho : bo o) (hH : bHk 84 bTT hp) (hR : ∀ z : Int32, ((z.toInt = 1 ∧ 0 ≤ a.toInt ∧ a.toInt < rN hp o 0) ∨ (z.toInt = 0 ∧ (a.toInt < 0 ∨ rN hp o 0 ≤ a.toInt))) → R (.inl (some (.int z))) hp) : xK d 3 [.ref o, .int a] hp R := by
  refine xin (M := am_m3) rfl rfl (by unfold xAv; simp [amOk, bo_lt ho, Value.category]) ?_
  refine xild 1 ⟨u3, _, rfl⟩ rfl rfl ?_
  refine xif_lt 4 ⟨u3, _, rfl⟩ rfl (fun c1 => ?_) (fun c1 => ?_)
  · refine xcst 17 (0) ⟨u3, _, rfl⟩ rfl (by decide) (fun z16 h16 => ?_)
    exact xretB ⟨u3, _, rfl⟩ rfl (by omega) (hR _ (by omega))
  · refine xild 5 ⟨u3, _, rfl⟩ rfl rfl ?_
    refine xald 6 ⟨u3, _, rfl⟩ rfl rfl ?_
    refine xgetC 9 hH ⟨u3, _, rfl⟩ rfl (bo_lt ho) (by decide) (bo_T ho) rfl (by decide) (fun z6 h6 => ?_)
    refine xcmp_ge 12 ⟨u3, _, rfl⟩ rfl (fun c9 => ?_) (fun c9 => ?_)
    · refine xcst 17 (0) ⟨u3, _, rfl⟩ rfl (by decide) (fun z16 h16 => ?_)
      exact xretB ⟨u3, _, rfl⟩ rfl (by omega) (hR _ (by omega))
    · refine xcst 13 (1) ⟨u3, _, rfl⟩ rfl (by decide) (fun z12 h12 => ?_)
      refine xgoto ⟨u3, _, rfl⟩ ?_
      exact xretB ⟨u3, _, rfl⟩ rfl (by omega) (hR _ (by omega))
theorem k_all {d : Nat} {hp : amH} {R : xQ} {o V : Nat} (ho : bo o) (hH : bHk 84 bTT hp) (hV : rN hp o 0 = (V : Int)) (hR : ∀ z : Int32, z.toInt = ((2 ^ V - 1 : Nat) : Int) → R (.inl (some (.int z))) hp) : xK d 4 [.ref o] hp R := by
  have b := b_pts hH ho
  refine xin (M := am_m4) rfl rfl (by unfold xAv; simp [amOk, bo_lt ho, Value.category]) ?_
  refine xcst 1 (1) ⟨u4, _, rfl⟩ rfl (by decide) (fun z0 h0 => ?_)
  refine xald 2 ⟨u4, _, rfl⟩ rfl rfl ?_
  refine xgetC 5 hH ⟨u4, _, rfl⟩ rfl (bo_lt ho) (by decide) (bo_T ho) rfl (by decide) (fun z2 h2 => ?_)
  refine xshl 6 ⟨u4, _, rfl⟩ rfl ?_
  refine xcst 7 (1) ⟨u4, _, rfl⟩ rfl (by decide) (fun z6 h6 => ?_)
  have s := i_shlV h0 (h2.trans hV) (by omega)
  refine xsub 8 _ ⟨u4, _, rfl⟩ rfl rfl (by omega) (by omega) (fun z7 h7 => ?_)
  exact xret ⟨u4, _, rfl⟩ rfl (hR _ (by omega))
theorem k_thd {d : Nat} {hp : amH} {R : xQ} {o V : Nat} {T : sT} {a b : Int32} (ho : bo o) (hH : bHk 84 bTT hp) (hB : bdOk hp o V T) (hR : ∀ z : Int32, z.toInt = (if 0 ≤ a.toInt ∧ 0 ≤ b.toInt then T a.toInt.toNat b.toInt.toNat else -1) → R (.inl (some (.int z))) hp) : xK d 7 [.ref o, .int a, .int b] hp R := by
  have q := b_pts hH ho
  obtain ⟨h1, h2, h3, h4, -⟩ := hB
  have hno : a.toInt < 0 ∨ (V : Int) ≤ a.toInt ∨ b.toInt < 0 ∨ (V : Int) ≤ b.toInt → (if 0 ≤ a.toInt ∧ 0 ≤ b.toInt then T a.toInt.toNat b.toInt.toNat else -1) = -1 := by
    intro g
    split
    · rcases h2.2.2 a.toInt.toNat b.toInt.toNat with k | ⟨c, k, k1, k2, -⟩
      · exact k
      · omega
    · rfl
  refine xin (M := am_m7) rfl rfl (by unfold xAv; simp [amOk, bo_lt ho, Value.category]) ?_
  refine xild 1 ⟨u7, _, rfl⟩ rfl rfl ?_
  refine xif_lt 4 ⟨u7, _, rfl⟩ rfl (fun c1 => ?_) (fun c1 => ?_)
  · refine xcst 39 (-1) ⟨u7, _, rfl⟩ rfl (by decide) (fun z38 h38 => ?_)
    exact xret ⟨u7, _, rfl⟩ rfl (hR _ (by rw [hno (by omega)]; exact h38))
  · refine xild 5 ⟨u7, _, rfl⟩ rfl rfl ?_
    refine xald 6 ⟨u7, _, rfl⟩ rfl rfl ?_
    refine xgetC 9 hH ⟨u7, _, rfl⟩ rfl (bo_lt ho) (by decide) (bo_T ho) rfl (by decide) (fun z6 h6 => ?_)
    refine xcmp_ge 12 ⟨u7, _, rfl⟩ rfl (fun c9 => ?_) (fun c9 => ?_)
    · refine xcst 39 (-1) ⟨u7, _, rfl⟩ rfl (by decide) (fun z38 h38 => ?_)
      exact xret ⟨u7, _, rfl⟩ rfl (hR _ (by rw [hno (by omega)]; exact h38))
    · refine xild 13 ⟨u7, _, rfl⟩ rfl rfl ?_
      refine xif_lt 16 ⟨u7, _, rfl⟩ rfl (fun c13 => ?_) (fun c13 => ?_)
      · refine xcst 39 (-1) ⟨u7, _, rfl⟩ rfl (by decide) (fun z38 h38 => ?_)
        exact xret ⟨u7, _, rfl⟩ rfl (hR _ (by rw [hno (by omega)]; exact h38))
      · refine xild 17 ⟨u7, _, rfl⟩ rfl rfl ?_
        refine xald 18 ⟨u7, _, rfl⟩ rfl rfl ?_
        refine xgetC 21 hH ⟨u7, _, rfl⟩ rfl (bo_lt ho) (by decide) (bo_T ho) rfl (by decide) (fun z18 h18 => ?_)
        refine xcmp_ge 24 ⟨u7, _, rfl⟩ rfl (fun c21 => ?_) (fun c21 => ?_)
        · refine xcst 39 (-1) ⟨u7, _, rfl⟩ rfl (by decide) (fun z38 h38 => ?_)
          exact xret ⟨u7, _, rfl⟩ rfl (hR _ (by rw [hno (by omega)]; exact h38))
        · refine xald 25 ⟨u7, _, rfl⟩ rfl rfl ?_
          refine xgetD 28 (o + 1) hH ⟨u7, _, rfl⟩ rfl (bo_lt ho) (by decide) (bo_T ho) rfl (by decide) ?_
          refine xild 29 ⟨u7, _, rfl⟩ rfl rfl ?_
          refine xbip 31 (15) ⟨u7, _, rfl⟩ rfl (by decide) (fun z29 h29 => ?_)
          refine xmul 32 (Int32.toInt a * 15) ⟨u7, _, rfl⟩ rfl (by rw [h29]) (by omega) (by omega) (fun z31 h31 => ?_)
          refine xild 33 ⟨u7, _, rfl⟩ rfl rfl ?_
          refine xadd 34 _ ⟨u7, _, rfl⟩ rfl rfl (by omega) (by omega) (fun z33 h33 => ?_)
          refine xiald 35 (z33).toInt.toNat hH ⟨u7, _, rfl⟩ rfl (bo_lt1 ho) (bo_T1 ho) (by omega) (by omega) (fun z34 h34 => ?_)
          refine xgoto ⟨u7, _, rfl⟩ ?_
          exact xret ⟨u7, _, rfl⟩ rfl (hR _ (by rw [if_pos (by omega), ← h3 _ _ (by omega) (by omega), h34]; congr 1; omega))
theorem k_opn {d : Nat} {hp : amH} {R : xQ} {o V x : Nat} {T : sT} {a : Int32} (ho : bo o) (hH : bHk 84 bTT hp) (hB : bdOk hp o V T) (ha : a.toInt = (x : Int)) (hR : ∀ z : Int32, z.toInt = ((opN V T x : Nat) : Int) → R (.inl (some (.int z))) hp) : xK (d + 1) 8 [.ref o, .int a] hp R := by
  have q := b_pts hH ho
  obtain ⟨h1, h2, h3, h4, h5⟩ := hB
  have hno : ¬ x < V → opN V T x = 0 := by
    intro g
    apply Nat.eq_of_testBit_eq
    intro i
    rw [op_test h2.2.1, decide_eq_false (by omega), Nat.zero_testBit]
  refine xin (M := am_m8) rfl rfl (by unfold xAv; simp [amOk, bo_lt ho, Value.category]) ?_
  refine xald 1 ⟨u8, _, rfl⟩ rfl rfl ?_
  refine xild 2 ⟨u8, _, rfl⟩ rfl rfl ?_
  refine xcallC 5 (o := o) [.int _] [] hH ⟨u8, _, rfl⟩ rfl rfl (bo_lt ho) (bo_T ho) (by decide) rfl ⟨rfl, rfl, rfl, rfl⟩ rfl (k_isp ho hH (fun z2 h2 => ⟨_, rfl, ?_⟩))
  refine xif_eq 8 ⟨u8, _, rfl⟩ rfl (fun c5 => ?_) (fun c5 => ?_)
  · refine xcst 18 (0) ⟨u8, _, rfl⟩ rfl (by decide) (fun z17 h17 => ?_)
    exact xret ⟨u8, _, rfl⟩ rfl (hR _ (by rw [hno (by omega)]; exact h17))
  · refine xald 9 ⟨u8, _, rfl⟩ rfl rfl ?_
    refine xgetD 12 (o + 3) hH ⟨u8, _, rfl⟩ rfl (bo_lt ho) (by decide) (bo_T ho) rfl (by decide) ?_
    refine xild 13 ⟨u8, _, rfl⟩ rfl rfl ?_
    refine xiald 14 (a).toInt.toNat hH ⟨u8, _, rfl⟩ rfl (bo_lt3 ho) (bo_T3 ho) (by omega) (by omega) (fun z13 h13 => ?_)
    refine xgoto ⟨u8, _, rfl⟩ ?_
    exact xret ⟨u8, _, rfl⟩ rfl (hR _ (by rw [← h5 x (by omega), h13]; congr 1; omega))
/-- a pair gets its third point -/
theorem k_join {d : Nat} {hp : amH} {R : xQ} {o V x y : Nat} {a b c : Int32} (ho : bo o) (hH : bHk 84 bTT hp) (hV : rN hp o 0 = (V : Int)) (ha : a.toInt = (x : Int)) (hb : b.toInt = (y : Int)) (hx : x < V) (hy : y < V) (hxy : ¬ x = y) {m n : Nat} (hm : rN hp (o + 3) x = (m : Int)) (hn : rN hp (o + 3) y = (n : Int)) (hm2 : m < 32768) (hn2 : n < 32768)
    (hR : ∀ hp1, bHk 84 bTT hp1 → bFx [o + 1, o + 3] hp hp1 → (∀ u v, u < 15 → v < 15 → rN hp1 (o + 1) (15 * u + v) = if (u = x ∧ v = y) ∨ (u = y ∧ v = x) then c.toInt else rN hp (o + 1) (15 * u + v)) → rN hp1 (o + 3) x = ((ndif m (2 ^ y) : Nat) : Int) → rN hp1 (o + 3) y = ((ndif n (2 ^ x) : Nat) : Int) → (∀ p, ¬ p = x → ¬ p = y → rN hp1 (o + 3) p = rN hp (o + 3) p) → R (.inl none) hp1) : xK (d + 1) 16 [.ref o, .int a, .int b, .int c] hp R := by
  have q := b_pts hH ho
  have c1 := aMin c
  have c2 := aMax c
  refine xin (M := am_m16) rfl rfl (by unfold xAv; simp [amOk, bo_lt ho, Value.category]) ?_
  refine xald 1 ⟨u16, _, rfl⟩ rfl rfl ?_
  refine xild 2 ⟨u16, _, rfl⟩ rfl rfl ?_
  refine xcallC 5 (o := o) [.int _] [] hH ⟨u16, _, rfl⟩ rfl rfl (bo_lt ho) (bo_T ho) (by decide) rfl ⟨rfl, rfl, rfl, rfl⟩ rfl (k_isp ho hH (fun z2 h2 => ⟨_, rfl, ?_⟩))
  refine xif_eq 8 ⟨u16, _, rfl⟩ rfl (fun c5 => ?_) (fun c5 => ?_)
  · omega
  · refine xald 9 ⟨u16, _, rfl⟩ rfl rfl ?_
    refine xild 10 ⟨u16, _, rfl⟩ rfl rfl ?_
    refine xcallC 13 (o := o) [.int _] [] hH ⟨u16, _, rfl⟩ rfl rfl (bo_lt ho) (bo_T ho) (by decide) rfl ⟨rfl, rfl, rfl, rfl⟩ rfl (k_isp ho hH (fun z10 h10 => ⟨_, rfl, ?_⟩))
    refine xif_eq 16 ⟨u16, _, rfl⟩ rfl (fun c13 => ?_) (fun c13 => ?_)
    · omega
    · refine xald 17 ⟨u16, _, rfl⟩ rfl rfl ?_
      refine xgetD 20 (o + 1) hH ⟨u16, _, rfl⟩ rfl (bo_lt ho) (by decide) (bo_T ho) rfl (by decide) ?_
      refine xild 21 ⟨u16, _, rfl⟩ rfl rfl ?_
      refine xbip 23 (15) ⟨u16, _, rfl⟩ rfl (by decide) (fun z21 h21 => ?_)
      refine xmul 24 (Int32.toInt a * 15) ⟨u16, _, rfl⟩ rfl (by rw [h21]) (by omega) (by omega) (fun z23 h23 => ?_)
      refine xild 25 ⟨u16, _, rfl⟩ rfl rfl ?_
      refine xadd 26 _ ⟨u16, _, rfl⟩ rfl rfl (by omega) (by omega) (fun z25 h25 => ?_)
      refine xild 27 ⟨u16, _, rfl⟩ rfl rfl ?_
      refine xiast 28 (z25).toInt.toNat hH ⟨u16, _, rfl⟩ rfl (bo_lt1 ho) (bo_T1 ho) (by omega) (by omega) (by omega) (by omega) (fun hp27 hH27 U27 => ?_)
      have s27 := U27.1
      refine xald 29 ⟨u16, _, rfl⟩ rfl rfl ?_
      refine xgetD 32 (o + 1) hH27 ⟨u16, _, rfl⟩ rfl (bo_lt ho) (by decide) (bo_T ho) rfl (by decide) ?_
      refine xild 33 ⟨u16, _, rfl⟩ rfl rfl ?_
      refine xbip 35 (15) ⟨u16, _, rfl⟩ rfl (by decide) (fun z33 h33 => ?_)
      refine xmul 36 (Int32.toInt b * 15) ⟨u16, _, rfl⟩ rfl (by rw [h33]) (by omega) (by omega) (fun z35 h35 => ?_)
      refine xild 37 ⟨u16, _, rfl⟩ rfl rfl ?_
      refine xadd 38 _ ⟨u16, _, rfl⟩ rfl rfl (by omega) (by omega) (fun z37 h37 => ?_)
      refine xild 39 ⟨u16, _, rfl⟩ rfl rfl ?_
      refine xiast 40 (z37).toInt.toNat hH27 ⟨u16, _, rfl⟩ rfl (bo_lt1 ho) (bo_T1 ho) (by omega) (by omega) (by omega) (by omega) (fun hp39 hH39 U39 => ?_)
      have s39 := U39.1
      refine xald 41 ⟨u16, _, rfl⟩ rfl rfl ?_
      refine xgetD 44 (o + 3) hH39 ⟨u16, _, rfl⟩ rfl (bo_lt ho) (by decide) (bo_T ho) rfl (by decide) ?_
      refine xild 45 ⟨u16, _, rfl⟩ rfl rfl ?_
      refine xdup2 46 ⟨u16, _, rfl⟩ rfl rfl rfl ?_
      refine xiald 47 (a).toInt.toNat hH39 ⟨u16, _, rfl⟩ rfl (bo_lt3 ho) (bo_T3 ho) (by omega) (by omega) (fun z46 h46 => ?_)
      refine xcst 48 (1) ⟨u16, _, rfl⟩ rfl (by decide) (fun z47 h47 => ?_)
      refine xild 49 ⟨u16, _, rfl⟩ rfl rfl ?_
      refine xshl 50 ⟨u16, _, rfl⟩ rfl ?_
      refine xcst 51 (-1) ⟨u16, _, rfl⟩ rfl (by decide) (fun z50 h50 => ?_)
      refine xxor 52 ⟨u16, _, rfl⟩ rfl ?_
      refine xand 53 ⟨u16, _, rfl⟩ rfl ?_
      have h46m : z46.toInt = (m : Int) := by rw [h46, rU_ne U39 (by omega), rU_ne U27 (by omega), show a.toInt.toNat = x by omega]; exact hm
      have w1 := i_nd h46m (i_shl h47 hb (by omega)).1 hm2 (by have := (i_shl h47 hb (by omega)).2; omega) h50
      have w1b := nd_lt (n := 2 ^ y) hm2
      refine xiast 54 (a).toInt.toNat hH39 ⟨u16, _, rfl⟩ rfl (bo_lt3 ho) (bo_T3 ho) (by omega) (by omega) (by omega) (by omega) (fun hp53 hH53 U53 => ?_)
      have s53 := U53.1
      refine xald 55 ⟨u16, _, rfl⟩ rfl rfl ?_
      refine xgetD 58 (o + 3) hH53 ⟨u16, _, rfl⟩ rfl (bo_lt ho) (by decide) (bo_T ho) rfl (by decide) ?_
      refine xild 59 ⟨u16, _, rfl⟩ rfl rfl ?_
      refine xdup2 60 ⟨u16, _, rfl⟩ rfl rfl rfl ?_
      refine xiald 61 (b).toInt.toNat hH53 ⟨u16, _, rfl⟩ rfl (bo_lt3 ho) (bo_T3 ho) (by omega) (by omega) (fun z60 h60 => ?_)
      refine xcst 62 (1) ⟨u16, _, rfl⟩ rfl (by decide) (fun z61 h61 => ?_)
      refine xild 63 ⟨u16, _, rfl⟩ rfl rfl ?_
      refine xshl 64 ⟨u16, _, rfl⟩ rfl ?_
      refine xcst 65 (-1) ⟨u16, _, rfl⟩ rfl (by decide) (fun z64 h64 => ?_)
      refine xxor 66 ⟨u16, _, rfl⟩ rfl ?_
      refine xand 67 ⟨u16, _, rfl⟩ rfl ?_
      have h60n : z60.toInt = (n : Int) := by rw [h60, rU_ne U53 (by omega), rU_ne U39 (by omega), rU_ne U27 (by omega), show b.toInt.toNat = y by omega]; exact hn
      have w2 := i_nd h60n (i_shl h61 ha (by omega)).1 hn2 (by have := (i_shl h61 ha (by omega)).2; omega) h64
      have w2b := nd_lt (n := 2 ^ x) hn2
      refine xiast 68 (b).toInt.toNat hH53 ⟨u16, _, rfl⟩ rfl (bo_lt3 ho) (bo_T3 ho) (by omega) (by omega) (by omega) (by omega) (fun hp67 hH67 U67 => ?_)
      have s67 := U67.1
      exact xretV ⟨u16, _, rfl⟩ rfl (hR hp67 hH67 ((((bFx_U U27 (by simp)).trans (bFx_U U39 (by simp))).trans (bFx_U U53 (by simp))).trans (bFx_U U67 (by simp))) (fun u v hu hv => by
          rw [rU_ne U67 (by omega), rU_ne U53 (by omega)]
          by_cases e2 : u = y ∧ v = x
          · obtain ⟨rfl, rfl⟩ := e2
            rw [if_pos (by omega), show 15 * u + v = z37.toInt.toNat by omega]
            exact U39.1
          · rw [rU_ne U39 (by omega)]
            by_cases e1 : u = x ∧ v = y
            · obtain ⟨rfl, rfl⟩ := e1
              rw [if_pos (by omega), show 15 * u + v = z25.toInt.toNat by omega]
              exact U27.1
            · rw [if_neg (by omega), rU_ne U27 (by omega)]) (by rw [rU_ne U67 (by omega), show x = a.toInt.toNat by omega, U53.1, w1]) (by rw [show y = b.toInt.toNat by omega, U67.1, w2]) (fun p p1 p2 => by rw [rU_ne U67 (by omega), rU_ne U53 (by omega), rU_ne U39 (by omega), rU_ne U27 (by omega)]))
