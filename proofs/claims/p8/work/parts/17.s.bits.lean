/-! ===== ways by hand: sets of points as numbers ===== -/
def bN (x : Int32) : Nat := x.toBitVec.toNat
theorem bN_t {x : Int32} {n : Nat} (h : x.toInt = (n : Int)) : bN x = n := by
  have e : x.toInt = x.toBitVec.toInt := rfl
  rw [BitVec.toInt_eq_toNat_cond] at e
  have := x.toBitVec.isLt
  unfold bN
  split at e <;> omega
theorem t_bN {x : Int32} (h : bN x < 32768) : x.toInt = (bN x : Int) := by
  have e : x.toInt = x.toBitVec.toInt := rfl
  rw [BitVec.toInt_eq_toNat_cond] at e
  unfold bN at h ⊢
  split at e <;> omega
theorem i_or {x y : Int32} {a b : Nat} (hx : x.toInt = (a : Int)) (hy : y.toInt = (b : Int)) (ha : a < 32768) (hb : b < 32768) : (x ||| y).toInt = ((a ||| b : Nat) : Int) ∧ a ||| b < 32768 := by
  have e : bN (x ||| y) = a ||| b := by
    have h1 := bN_t hx
    have h2 := bN_t hy
    unfold bN at h1 h2 ⊢
    rw [Int32.toBitVec_or, BitVec.toNat_or, h1, h2]
  have h3 : a ||| b < 2 ^ 15 := Nat.or_lt_two_pow (by omega) (by omega)
  exact ⟨by rw [t_bN (by omega), e], h3⟩
theorem i_and {x y : Int32} {a b : Nat} (hx : x.toInt = (a : Int)) (hy : y.toInt = (b : Int)) (ha : a < 32768) : (x &&& y).toInt = ((a &&& b : Nat) : Int) ∧ a &&& b < 32768 := by
  have e : bN (x &&& y) = a &&& b := by
    have h1 := bN_t hx
    have h2 := bN_t hy
    unfold bN at h1 h2 ⊢
    rw [Int32.toBitVec_and, BitVec.toNat_and, h1, h2]
  have h3 : a &&& b ≤ a := Nat.and_le_left
  exact ⟨by rw [t_bN (by omega), e], by omega⟩
theorem i_xor {x y : Int32} {a b : Nat} (hx : x.toInt = (a : Int)) (hy : y.toInt = (b : Int)) (ha : a < 32768) (hb : b < 32768) : (x ^^^ y).toInt = ((a ^^^ b : Nat) : Int) ∧ a ^^^ b < 32768 := by
  have e : bN (x ^^^ y) = a ^^^ b := by
    have h1 := bN_t hx
    have h2 := bN_t hy
    unfold bN at h1 h2 ⊢
    rw [Int32.toBitVec_xor, BitVec.toNat_xor, h1, h2]
  have h3 : a ^^^ b < 2 ^ 15 := Nat.xor_lt_two_pow (by omega) (by omega)
  exact ⟨by rw [t_bN (by omega), e], h3⟩
theorem sh_all : ∀ c : Fin 15, ((1 : Int32) <<< (Int32.ofNat c &&& 31)).toInt = ((2 ^ (c : Nat) : Nat) : Int) ∧ 2 ^ (c : Nat) < 32768 ∧ (Int32.ofNat c &&& 31).toBitVec.smod 32 = BitVec.ofNat 32 c := by decide +kernel
theorem i_shl {o c : Int32} {n : Nat} (ho : o.toInt = 1) (hc : c.toInt = (n : Int)) (hn : n < 15) : (o <<< (c &&& 31)).toInt = ((2 ^ n : Nat) : Int) ∧ 2 ^ n < 32768 := by
  have ho : o = 1 := x_eq.mpr ho
  subst ho
  rw [i_of hc hn]
  have := sh_all ⟨n, hn⟩
  exact ⟨this.1, this.2.1⟩
theorem i_shr {x c : Int32} {a n : Nat} (hx : x.toInt = (a : Int)) (ha : a < 32768) (hc : c.toInt = (n : Int)) (hn : n < 15) : (x >>> (c &&& 31)).toInt = ((a >>> n : Nat) : Int) ∧ a >>> n < 32768 := by
  have h1 := bN_t hx
  rw [i_of hc hn]
  have hs := (sh_all ⟨n, hn⟩).2.2
  dsimp only at hs
  have hm : x.toBitVec.msb = false := by
    rw [BitVec.msb_eq_false_iff_two_mul_lt]
    unfold bN at h1
    omega
  have e : bN (x >>> (Int32.ofNat n &&& 31)) = a >>> n := by
    unfold bN at h1 ⊢
    rw [Int32.toBitVec_shiftRight, hs]
    unfold BitVec.sshiftRight'
    rw [BitVec.sshiftRight_eq_of_msb_false hm, BitVec.toNat_ushiftRight, h1, BitVec.toNat_ofNat, Nat.mod_eq_of_lt (by omega)]
  have h3 : a >>> n ≤ a := Nat.shiftRight_le a n
  exact ⟨by rw [t_bN (by omega), e], by omega⟩
theorem i_bit {x c o : Int32} {a n : Nat} (hx : x.toInt = (a : Int)) (ha : a < 32768) (hc : c.toInt = (n : Int)) (hn : n < 15) (ho : o.toInt = 1) : ((x >>> (c &&& 31)) &&& o).toInt = if a.testBit n then 1 else 0 := by
  obtain ⟨h1, h2⟩ := i_shr hx ha hc hn
  obtain ⟨h3, -⟩ := i_and (b := 1) h1 (by rw [ho]; rfl) h2
  rw [h3, Nat.and_one_is_mod]
  have e : a.testBit n = decide (a >>> n % 2 = 1) := by
    rw [Nat.testBit_eq_decide_div_mod_eq, Nat.shiftRight_eq_div_pow]
  rw [e]
  by_cases h : a >>> n % 2 = 1
  · rw [if_pos (decide_eq_true h), h]
    rfl
  · rw [if_neg (fun z => h (of_decide_eq_true z))]
    omega
theorem sh_all2 : ∀ c : Fin 16, (Int32.ofNat c &&& 31).toBitVec.smod 32 = BitVec.ofNat 32 c := by decide +kernel
theorem t_bN2 {x : Int32} (h : bN x < 2147483648) : x.toInt = (bN x : Int) := by
  have e : x.toInt = x.toBitVec.toInt := rfl
  rw [BitVec.toInt_eq_toNat_cond] at e
  unfold bN at h ⊢
  split at e <;> omega
theorem i_shrG {x c : Int32} {a n : Nat} (hx : x.toInt = (a : Int)) (hc : c.toInt = (n : Int)) (hn : n < 16) : (x >>> (c &&& 31)).toInt = ((a >>> n : Nat) : Int) := by
  have h1 := bN_t hx
  have hb := aMax x
  have hcc : c = Int32.ofNat n := by
    apply Int32.toInt_inj.mp
    rw [hc, Int32.toInt_ofNat_of_lt (by omega)]
  rw [hcc]
  have hs := sh_all2 ⟨n, hn⟩
  dsimp only at hs
  have hm : x.toBitVec.msb = false := by
    rw [BitVec.msb_eq_false_iff_two_mul_lt]
    unfold bN at h1
    omega
  have e : bN (x >>> (Int32.ofNat n &&& 31)) = a >>> n := by
    unfold bN at h1 ⊢
    rw [Int32.toBitVec_shiftRight, hs]
    unfold BitVec.sshiftRight'
    rw [BitVec.sshiftRight_eq_of_msb_false hm, BitVec.toNat_ushiftRight, h1, BitVec.toNat_ofNat, Nat.mod_eq_of_lt (by omega)]
  have h3 : a >>> n ≤ a := Nat.shiftRight_le a n
  rw [t_bN2 (by omega), e]
