/-! ===== longs as sets of numbers below 62 ===== -/
def jN (x : Int64) : Nat := x.toBitVec.toNat
theorem jN_t {x : Int64} {n : Nat} (h : x.toInt = (n : Int)) : jN x = n ∧ n < 9223372036854775808 := by
  have e : x.toInt = x.toBitVec.toInt := rfl
  have l := x.toBitVec.isLt
  unfold jN
  rw [e, BitVec.toInt_eq_toNat_cond] at h
  split at h
  · omega
  · omega
theorem t_jN {x : Int64} (h : jN x < 9223372036854775808) : x.toInt = ((jN x : Nat) : Int) := by
  have e : x.toInt = x.toBitVec.toInt := rfl
  unfold jN at *
  rw [e, BitVec.toInt_eq_toNat_cond, if_pos (by omega)]
theorem j_or {x y : Int64} {a b : Nat} (hx : x.toInt = (a : Int)) (hy : y.toInt = (b : Int)) : (x ||| y).toInt = ((a ||| b : Nat) : Int) := by
  obtain ⟨e1, l1⟩ := jN_t hx
  obtain ⟨e2, l2⟩ := jN_t hy
  have l : a ||| b < 2 ^ 63 := Nat.or_lt_two_pow (by omega) (by omega)
  have e3 : jN (x ||| y) = a ||| b := by
    unfold jN at *
    rw [Int64.toBitVec_or, BitVec.toNat_or, e1, e2]
  rw [t_jN (by rw [e3]; omega), e3]
theorem j_and {x y : Int64} {a b : Nat} (hx : x.toInt = (a : Int)) (hy : y.toInt = (b : Int)) : (x &&& y).toInt = ((a &&& b : Nat) : Int) := by
  obtain ⟨e1, l1⟩ := jN_t hx
  obtain ⟨e2, l2⟩ := jN_t hy
  have l : a &&& b ≤ a := Nat.and_le_left
  have e3 : jN (x &&& y) = a &&& b := by
    unfold jN at *
    rw [Int64.toBitVec_and, BitVec.toNat_and, e1, e2]
  rw [t_jN (by rw [e3]; omega), e3]
theorem j_sub {x y : Int64} {a b : Nat} (hx : x.toInt = (a : Int)) (hy : y.toInt = (b : Int)) (h : b ≤ a) : (x - y).toInt = ((a - b : Nat) : Int) := by
  obtain ⟨e1, l1⟩ := jN_t hx
  rw [Int64.toInt_sub, hx, hy]
  have : ((a : Int) - (b : Int)) = ((a - b : Nat) : Int) := by omega
  rw [this]
  exact Int.bmod_eq_of_le (by omega) (by omega)
theorem j_sh : ∀ k : Fin 62, ((Int32.ofNat k.1).toInt64 &&& 63).toBitVec.smod 64 = BitVec.ofNat 64 k.1 := by decide
theorem j_shl {o : Int64} {c : Int32} {k : Nat} (ho : o.toInt = 1) (hc : c.toInt = (k : Int)) (hk : k < 62) : (o <<< (c.toInt64 &&& 63)).toInt = ((2 ^ k : Nat) : Int) := by
  obtain ⟨e1, -⟩ := jN_t (n := 1) ho
  have e2 : (c.toInt64 &&& 63).toBitVec.smod 64 = BitVec.ofNat 64 k := by
    have : c = Int32.ofNat k := Int32.toInt_inj.mp (by rw [hc, Int32.toInt_ofNat_of_lt (by omega)])
    rw [this]
    exact j_sh ⟨k, hk⟩
  have h1 : 2 ^ k ≤ 2 ^ 61 := Nat.pow_le_pow_right (by decide) (by omega)
  have e3 : jN (o <<< (c.toInt64 &&& 63)) = 2 ^ k := by
    unfold jN at *
    rw [show (o <<< (c.toInt64 &&& 63)).toBitVec = o.toBitVec <<< ((c.toInt64 &&& 63).toBitVec.smod 64) from rfl, e2, BitVec.shiftLeft_eq', BitVec.toNat_shiftLeft, e1, BitVec.toNat_ofNat, Nat.mod_eq_of_lt (show k < 2 ^ 64 by omega), Nat.shiftLeft_eq, Nat.one_mul, Nat.mod_eq_of_lt (by omega)]
  rw [t_jN (by rw [e3]; omega), e3]
