/-! ===== the class's sets of points ===== -/
theorem u68 : bUp 0 am_m68.1 = true := by decide +kernel
theorem u69 : bUp 0 am_m69.1 = true := by decide +kernel
theorem u70 : bUp 0 am_m70.1 = true := by decide +kernel
theorem u71 : bUp 0 am_m71.1 = true := by decide +kernel
section XN
variable {M : amM} {pc a b d : Nat} {L : List (Option Value)} {st : List Value} {hp : amH} {Q : xQ}
theorem xneg (q : Nat) {x : Int32} (h : xI M pc .ineg a b) (e : q = pc + 1) (hw : xV d M q L (.int (-x) :: st) hp Q) : xV d M pc L (.int x :: st) hp Q := by
  refine xstep h (fun cl hl => ⟨cl, ?_, hl⟩) hw
  subst e
  simp [amDo, amStep, amI]
end XN
/-- the sets of three points -/
theorem m3_lt {x y z : Nat} (hx : x < 15) (hy : y < 15) (hz : z < 15) : m3 x y z < 32768 := by
  have h1 : 2 ^ x < 2 ^ 15 := Nat.pow_lt_pow_right (by decide) hx
  have h2 : 2 ^ y < 2 ^ 15 := Nat.pow_lt_pow_right (by decide) hy
  have h3 : 2 ^ z < 2 ^ 15 := Nat.pow_lt_pow_right (by decide) hz
  exact Nat.or_lt_two_pow (Nat.or_lt_two_pow h1 h2) h3
theorem k_three {d : Nat} {hp : amH} {R : xQ} {a b c : Int32} {x y z : Nat} (ha : a.toInt = (x : Int)) (hb : b.toInt = (y : Int)) (hc : c.toInt = (z : Int)) (hx : x < 15) (hy : y < 15) (hz : z < 15) (hR : ∀ r : Int32, r.toInt = ((m3 x y z : Nat) : Int) → R (.inl (some (.int r))) hp) : xK d 68 [.int a, .int b, .int c] hp R := by
  refine xin (M := am_m68) rfl rfl rfl ?_
  refine xcst 1 (1) ⟨u68, _, rfl⟩ rfl (by decide) (fun z0 h0 => ?_)
  refine xild 2 ⟨u68, _, rfl⟩ rfl rfl ?_
  refine xshl 3 ⟨u68, _, rfl⟩ rfl ?_
  refine xcst 4 (1) ⟨u68, _, rfl⟩ rfl (by decide) (fun z3 h3 => ?_)
  refine xild 5 ⟨u68, _, rfl⟩ rfl rfl ?_
  refine xshl 6 ⟨u68, _, rfl⟩ rfl ?_
  refine xor_ 7 ⟨u68, _, rfl⟩ rfl ?_
  refine xcst 8 (1) ⟨u68, _, rfl⟩ rfl (by decide) (fun z7 h7 => ?_)
  refine xild 9 ⟨u68, _, rfl⟩ rfl rfl ?_
  refine xshl 10 ⟨u68, _, rfl⟩ rfl ?_
  refine xor_ 11 ⟨u68, _, rfl⟩ rfl ?_
  exact xret ⟨u68, _, rfl⟩ rfl (hR _ (by have e1 := i_shl h0 ha hx; have e2 := i_shl h3 hb hy; have e3 := i_or e1.1 e2.1 e1.2 e2.2; have e4 := i_shl h7 hc hz; exact (i_or e3.1 e4.1 e3.2 e4.2).1))
theorem k_has {d : Nat} {hp : amH} {R : xQ} {a b : Int32} {m n : Nat} (ha : a.toInt = (m : Int)) (hm : m < 32768) (hb : b.toInt = (n : Int)) (hn : n < 15) (hR : ∀ r : Int32, r.toInt = (if m.testBit n then 1 else 0) → R (.inl (some (.int r))) hp) : xK d 69 [.int a, .int b] hp R := by
  refine xin (M := am_m69) rfl rfl rfl ?_
  refine xild 1 ⟨u69, _, rfl⟩ rfl rfl ?_
  refine xild 2 ⟨u69, _, rfl⟩ rfl rfl ?_
  refine xshr 3 ⟨u69, _, rfl⟩ rfl ?_
  refine xcst 4 (1) ⟨u69, _, rfl⟩ rfl (by decide) (fun z3 h3 => ?_)
  refine xand 5 ⟨u69, _, rfl⟩ rfl ?_
  refine xcst 6 (1) ⟨u69, _, rfl⟩ rfl (by decide) (fun z5 h5 => ?_)
  refine xcmp_ne 9 ⟨u69, _, rfl⟩ rfl (fun c6 => ?_) (fun c6 => ?_)
  · refine xcst 14 (0) ⟨u69, _, rfl⟩ rfl (by decide) (fun z13 h13 => ?_)
    exact xretB ⟨u69, _, rfl⟩ rfl (by omega) (hR _ (by have e := i_bit ha hm hb hn h3; have w := c6; cases g : m.testBit n <;> rw [g] at e <;> simp only [if_true, if_false, Bool.false_eq_true] at e ⊢ <;> omega))
  · refine xcst 10 (1) ⟨u69, _, rfl⟩ rfl (by decide) (fun z9 h9 => ?_)
    refine xgoto ⟨u69, _, rfl⟩ ?_
    exact xretB ⟨u69, _, rfl⟩ rfl (by omega) (hR _ (by have e := i_bit ha hm hb hn h3; have w := c6; cases g : m.testBit n <;> rw [g] at e <;> simp only [if_true, if_false, Bool.false_eq_true] at e ⊢ <;> omega))
/-- the lowest i points left out -/
def clrN : Nat → Nat → Nat
  | 0, m => m
  | i + 1, m => clrN i m &&& (clrN i m - 1)
theorem clr_lt {m : Nat} (h : m < 32768) : ∀ i, clrN i m < 32768
  | 0 => h
  | i + 1 => Nat.lt_of_le_of_lt Nat.and_le_left (clr_lt h i)
theorem i_clr {x o : Int32} {r : Nat} (hx : x.toInt = (r : Int)) (hr : r < 32768) {z : Int32} (hz : z.toInt = x.toInt - 1) : (x &&& z).toInt = ((r &&& (r - 1) : Nat) : Int) := by
  rcases Nat.eq_zero_or_pos r with g | g
  · have : x = 0 := Int32.toInt_inj.mp (by rw [hx, g]; rfl)
    subst this
    subst g
    rw [Int32.zero_and]
    rfl
  · exact (i_and hx (b := r - 1) (by omega) hr).1
def lowN (r : Nat) : Nat := r &&& (4294967296 - r)
theorem i_low {x : Int32} {r : Nat} (hx : x.toInt = (r : Int)) (hr : r < 32768) (h0 : 0 < r) : (x &&& -x).toInt = ((lowN r : Nat) : Int) ∧ lowN r < 32768 := by
  have e1 := bN_t hx
  have l : lowN r < 32768 := Nat.lt_of_le_of_lt Nat.and_le_left hr
  have e2 : bN (x &&& -x) = lowN r := by
    unfold bN lowN at *
    rw [Int32.toBitVec_and, Int32.toBitVec_neg, BitVec.toNat_and, BitVec.toNat_neg, e1, Nat.mod_eq_of_lt (by omega)]
  exact ⟨by rw [t_bN (by omega), e2], l⟩
def bcN (n : Nat) : Int := (bcF (Int32.ofNat n)).toInt
/-- the point at a place of a set -/
def memN (m i : Nat) : Int := if clrN i m = 0 then -1 else bcN (lowN (clrN i m) - 1)
theorem mem_m3 : ∀ x y z : Fin 15, x < y → y < z → memN (m3 x y z) 0 = (x : Nat) ∧ memN (m3 x y z) 1 = (y : Nat) ∧ memN (m3 x y z) 2 = (z : Nat) := by decide +kernel
theorem mem3 {x y z : Nat} (h1 : x < y) (h2 : y < z) (h3 : z < 15) : memN (m3 x y z) 0 = (x : Int) ∧ memN (m3 x y z) 1 = (y : Int) ∧ memN (m3 x y z) 2 = (z : Int) := mem_m3 ⟨x, by omega⟩ ⟨y, by omega⟩ ⟨z, h3⟩ h1 h2
theorem k_bc {d : Nat} {hp : amH} {R : xQ} {x : Int32} {n : Nat} (hx : x.toInt = (n : Int)) (hR : ∀ z : Int32, z.toInt = bcN n → R (.inl (some (.int z))) hp) : xK d 343 [.int x] hp R := by
  refine ⟨am_m343, rfl, 42, .inl (some (.int (bcF x))), hp, m_bits 0 d, hR _ ?_⟩
  have : x = Int32.ofNat n := Int32.toInt_inj.mp (by
    have := aMax x
    rw [hx, Int32.toInt_ofNat_of_lt (by omega)])
  unfold bcN
  rw [← this]
theorem low_all : (List.range 32767).all (fun r => Nat.ble 1 (lowN (r + 1))) = true := by decide +kernel
theorem low_pos {r : Nat} (h0 : 0 < r) (hr : r < 32768) : 0 < lowN r := by
  have := List.all_eq_true.mp low_all (r - 1) (List.mem_range.mpr (by omega))
  have := Nat.le_of_ble_eq_true this
  rw [show r - 1 + 1 = r by omega] at this
  exact this
theorem l70 {d : Nat} {hp : amH} {R : xQ} {a b : Int32} {m i : Nat} (hH : bHk 84 bTT hp) (hm : m < 32768) (hb : b.toInt = (i : Int)) (hR : ∀ r : Int32, r.toInt = memN m i → R (.inl (some (.int r))) hp) :
    ∀ (jj q : Nat) (s k : Int32), s.toInt = ((clrN q m : Nat) : Int) → k.toInt = (q : Int) → q + jj = i → xV (d + 1) am_m70 4 [some (.int a), some (.int b), some (.int s), some (.int k)] [] hp R := by
  intro jj
  induction jj using Nat.strongRecOn with
  | ind jj ih =>
    intro q s k hs hk hjj
    have bb := aMax b
    have hc := clr_lt hm q
    refine xild 5 ⟨u70, _, rfl⟩ rfl rfl ?_
    refine xild 6 ⟨u70, _, rfl⟩ rfl rfl ?_
    refine xcmp_ge 9 ⟨u70, _, rfl⟩ rfl (fun c6 => ?_) (fun c6 => ?_)
    · have eq : q = i := by omega
      subst eq
      refine xild 22 ⟨u70, _, rfl⟩ rfl rfl ?_
      refine xif_ne 25 ⟨u70, _, rfl⟩ rfl (fun c22 => ?_) (fun c22 => ?_)
      · have lo := i_low hs hc (by omega)
        have lo1 : 0 < lowN (clrN q m) := low_pos (by omega) hc
        refine xild 30 ⟨u70, _, rfl⟩ rfl rfl ?_
        refine xild 31 ⟨u70, _, rfl⟩ rfl rfl ?_
        refine xneg 32 ⟨u70, _, rfl⟩ rfl ?_
        refine xand 33 ⟨u70, _, rfl⟩ rfl ?_
        refine xcst 34 (1) ⟨u70, _, rfl⟩ rfl (by decide) (fun z33 h33 => ?_)
        refine xsub 35 _ ⟨u70, _, rfl⟩ rfl rfl (by omega) (by omega) (fun z34 h34 => ?_)
        refine xcallS 38 [.int _] [] hH ⟨u70, _, rfl⟩ rfl rfl rfl rfl rfl (k_bc (n := lowN (clrN q m) - 1) (by omega) (fun z35 h35 => ⟨_, rfl, ?_⟩))
        exact xret ⟨u70, _, rfl⟩ rfl (hR _ (by unfold memN; rw [if_neg (by omega)]; exact h35))
      · refine xcst 26 (-1) ⟨u70, _, rfl⟩ rfl (by decide) (fun z25 h25 => ?_)
        refine xgoto ⟨u70, _, rfl⟩ ?_
        exact xret ⟨u70, _, rfl⟩ rfl (hR _ (by unfold memN; rw [if_pos (by omega)]; exact h25))
    · refine xild 10 ⟨u70, _, rfl⟩ rfl rfl ?_
      refine xild 11 ⟨u70, _, rfl⟩ rfl rfl ?_
      refine xcst 12 (1) ⟨u70, _, rfl⟩ rfl (by decide) (fun z11 h11 => ?_)
      refine xsub 13 _ ⟨u70, _, rfl⟩ rfl rfl (by omega) (by omega) (fun z12 h12 => ?_)
      refine xand 14 ⟨u70, _, rfl⟩ rfl ?_
      refine xist 15 ⟨u70, _, rfl⟩ rfl rfl ?_
      refine xinc 18 (1) ⟨u70, _, rfl⟩ rfl rfl rfl (by decide) (by omega) (by omega) (fun z15 h15 => ?_)
      refine xgoto ⟨u70, _, rfl⟩ ?_
      exact ih (jj - 1) (by omega) (q + 1) _ _ (i_clr (o := 0) hs hc (by omega)) (by omega) (by omega)
theorem k_mem {d : Nat} {hp : amH} {R : xQ} {a b : Int32} {m i : Nat} (hH : bHk 84 bTT hp) (ha : a.toInt = (m : Int)) (hm : m < 32768) (hb : b.toInt = (i : Int)) (hR : ∀ r : Int32, r.toInt = memN m i → R (.inl (some (.int r))) hp) : xK (d + 1) 70 [.int a, .int b] hp R := by
  refine xin (M := am_m70) rfl rfl rfl ?_
  refine xild 1 ⟨u70, _, rfl⟩ rfl rfl ?_
  refine xist 2 ⟨u70, _, rfl⟩ rfl rfl ?_
  refine xcst 3 (0) ⟨u70, _, rfl⟩ rfl (by decide) (fun z2 h2 => ?_)
  refine xist 4 ⟨u70, _, rfl⟩ rfl rfl ?_
  exact l70 hH hm hb hR i 0 _ _ ha (by omega) (by omega)
/-- a set turned -/
def rotN (V k m : Nat) : Nat := ((m <<< k) ||| (m >>> (V - k))) &&& (2 ^ V - 1)
theorem rot_or (V k m n : Nat) : rotN V k (m ||| n) = rotN V k m ||| rotN V k n := by
  unfold rotN
  rw [Nat.shiftLeft_or_distrib, Nat.shiftRight_or_distrib]
  apply Nat.eq_of_testBit_eq
  intro i
  simp only [Nat.testBit_and, Nat.testBit_or]
  cases (m <<< k).testBit i <;> cases (n <<< k).testBit i <;> cases (m >>> (V - k)).testBit i <;> cases (n >>> (V - k)).testBit i <;> cases (2 ^ V - 1).testBit i <;> rfl
theorem rot_all : ∀ V k x : Fin 16, 0 < (V : Nat) → k < V → x < V → rotN V k (2 ^ (x : Nat)) = 2 ^ (((x : Nat) + k) % V) := by decide +kernel
theorem rot_m3 {V k x y z : Nat} (hV : V ≤ 15) (hk : k < V) (hx : x < V) (hy : y < V) (hz : z < V) : rotN V k (m3 x y z) = m3 ((x + k) % V) ((y + k) % V) ((z + k) % V) := by
  have f : ∀ x, x < V → rotN V k (2 ^ x) = 2 ^ ((x + k) % V) := fun x hx => rot_all ⟨V, by omega⟩ ⟨k, by omega⟩ ⟨x, by omega⟩ (by show 0 < V; omega) hk hx
  unfold m3
  rw [rot_or, rot_or, f x hx, f y hy, f z hz]
theorem i_shlB {x c : Int32} {m k : Nat} (hx : x.toInt = (m : Int)) (hm : m < 32768) (hc : c.toInt = (k : Int)) (hk : k < 15) : (x <<< (c &&& 31)).toInt = ((m <<< k : Nat) : Int) ∧ m <<< k < 1073741824 := by
  have e1 := bN_t hx
  have e2 : (c &&& 31).toBitVec.smod 32 = BitVec.ofNat 32 k := by
    have : c = Int32.ofNat k := Int32.toInt_inj.mp (by rw [hc, Int32.toInt_ofNat_of_lt (by omega)])
    rw [this]
    exact (sh_all ⟨k, hk⟩).2.2
  have h2 : m <<< k < 1073741824 := by
    rw [Nat.shiftLeft_eq]
    have : 2 ^ k ≤ 2 ^ 14 := Nat.pow_le_pow_right (by decide) (by omega)
    have : m * 2 ^ k ≤ 32767 * 2 ^ 14 := Nat.mul_le_mul (by omega) this
    omega
  have e3 : bN (x <<< (c &&& 31)) = m <<< k := by
    unfold bN at *
    rw [Int32.toBitVec_shiftLeft, e2, BitVec.shiftLeft_eq', BitVec.toNat_shiftLeft, e1, BitVec.toNat_ofNat, Nat.mod_eq_of_lt (a := k) (by omega), Nat.mod_eq_of_lt (by omega)]
  exact ⟨by rw [t_bN2 (by omega), e3], h2⟩
theorem i_orG {x y : Int32} {a b : Nat} (hx : x.toInt = (a : Int)) (hy : y.toInt = (b : Int)) (ha : a < 1073741824) (hb : b < 1073741824) : (x ||| y).toInt = ((a ||| b : Nat) : Int) ∧ a ||| b < 1073741824 := by
  have e1 := bN_t hx
  have e2 := bN_t hy
  have l : a ||| b < 2 ^ 30 := Nat.or_lt_two_pow (by omega) (by omega)
  have e3 : bN (x ||| y) = a ||| b := by
    unfold bN at *
    rw [Int32.toBitVec_or, BitVec.toNat_or, e1, e2]
  exact ⟨by rw [t_bN2 (by omega), e3], by omega⟩
theorem i_andG {x y : Int32} {a b : Nat} (hx : x.toInt = (a : Int)) (hy : y.toInt = (b : Int)) (ha : a < 1073741824) : (x &&& y).toInt = ((a &&& b : Nat) : Int) ∧ a &&& b < 1073741824 := by
  have e1 := bN_t hx
  have e2 := bN_t hy
  have l : a &&& b ≤ a := Nat.and_le_left
  have e3 : bN (x &&& y) = a &&& b := by
    unfold bN at *
    rw [Int32.toBitVec_and, BitVec.toNat_and, e1, e2]
  exact ⟨by rw [t_bN2 (by omega), e3], by omega⟩
theorem i_shlV {o c : Int32} {V : Nat} (ho : o.toInt = 1) (hc : c.toInt = (V : Int)) (hV : V < 16) : (o <<< (c &&& 31)).toInt = ((2 ^ V : Nat) : Int) ∧ 1 ≤ 2 ^ V ∧ 2 ^ V ≤ 32768 := by
  have e1 := bN_t (n := 1) ho
  have e2 : (c &&& 31).toBitVec.smod 32 = BitVec.ofNat 32 V := by
    have : c = Int32.ofNat V := Int32.toInt_inj.mp (by rw [hc, Int32.toInt_ofNat_of_lt (by omega)])
    rw [this]
    exact sh_all2 ⟨V, hV⟩
  have h1 : 2 ^ V ≤ 2 ^ 15 := Nat.pow_le_pow_right (by decide) (by omega)
  have h0 : 0 < 2 ^ V := Nat.pow_pos (by decide)
  have e3 : bN (o <<< (c &&& 31)) = 2 ^ V := by
    unfold bN at *
    rw [Int32.toBitVec_shiftLeft, e2, BitVec.shiftLeft_eq', BitVec.toNat_shiftLeft, e1, BitVec.toNat_ofNat, Nat.mod_eq_of_lt (a := V) (by omega), Nat.shiftLeft_eq, Nat.one_mul, Nat.mod_eq_of_lt (by omega)]
  exact ⟨by rw [t_bN2 (by omega), e3], h0, h1⟩
theorem k_rot {d : Nat} {hp : amH} {R : xQ} {a b c : Int32} {m k V : Nat} (ha : a.toInt = (m : Int)) (hm : m < 32768) (hb : b.toInt = (k : Int)) (hc : c.toInt = (V : Int)) (hk : k < V) (hV : V ≤ 15) (hR : ∀ r : Int32, r.toInt = ((rotN V k m : Nat) : Int) → R (.inl (some (.int r))) hp) : xK d 71 [.int a, .int b, .int c] hp R := by
  refine xin (M := am_m71) rfl rfl rfl ?_
  refine xild 1 ⟨u71, _, rfl⟩ rfl rfl ?_
  refine xild 2 ⟨u71, _, rfl⟩ rfl rfl ?_
  refine xshl 3 ⟨u71, _, rfl⟩ rfl ?_
  refine xild 4 ⟨u71, _, rfl⟩ rfl rfl ?_
  refine xild 5 ⟨u71, _, rfl⟩ rfl rfl ?_
  refine xild 6 ⟨u71, _, rfl⟩ rfl rfl ?_
  refine xsub 7 _ ⟨u71, _, rfl⟩ rfl rfl (by omega) (by omega) (fun z6 h6 => ?_)
  refine xshr 8 ⟨u71, _, rfl⟩ rfl ?_
  refine xor_ 9 ⟨u71, _, rfl⟩ rfl ?_
  refine xcst 10 (1) ⟨u71, _, rfl⟩ rfl (by decide) (fun z9 h9 => ?_)
  refine xild 11 ⟨u71, _, rfl⟩ rfl rfl ?_
  refine xshl 12 ⟨u71, _, rfl⟩ rfl ?_
  refine xcst 13 (1) ⟨u71, _, rfl⟩ rfl (by decide) (fun z12 h12 => ?_)
  have s5 := i_shlV h9 hc (by omega)
  refine xsub 14 _ ⟨u71, _, rfl⟩ rfl rfl (by omega) (by omega) (fun z13 h13 => ?_)
  refine xand 15 ⟨u71, _, rfl⟩ rfl ?_
  have s1 := i_shlB ha hm hb (by omega)
  have s2 := i_shrG ha (n := V - k) (by omega : z6.toInt = ((V - k : Nat) : Int)) (by omega)
  have s3 : m >>> (V - k) < 1073741824 := Nat.lt_of_le_of_lt (Nat.shiftRight_le _ _) (by omega)
  have s4 := i_orG s1.1 s2 (by omega) (by omega)
  have s5 := i_shlV h9 hc (by omega)
  have s6 := i_andG s4.1 (show z13.toInt = ((2 ^ V - 1 : Nat) : Int) by omega) s4.2
  exact xret ⟨u71, _, rfl⟩ rfl (hR _ s6.1)
