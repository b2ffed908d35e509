/-! ===== the lowest of a set of numbers, in longs ===== -/
def jL : List Nat → Nat
  | [] => 0
  | x :: r => 2 ^ x + jL r
/-- rising, below 35 -/
def ris : List Nat → Prop
  | [] => True
  | x :: r => (x < 35 ∧ ∀ y, y ∈ r → x < y) ∧ ris r
theorem p2s (x : Nat) : 2 ^ (x + 1) = 2 ^ x + 2 ^ x := by rw [Nat.pow_succ]; omega
theorem jL_le : ∀ {L : List Nat} {x : Nat}, x ≤ 35 → (∀ y, y ∈ L → x ≤ y) → ris L → jL L + 2 ^ x ≤ 2 ^ 35
  | [], x, hx, _, _ => by
    show 0 + 2 ^ x ≤ 2 ^ 35
    rw [Nat.zero_add]
    exact Nat.pow_le_pow_right (by decide) hx
  | y :: r, x, hx, h, hr => by
    obtain ⟨⟨h1, h2⟩, h3⟩ := hr
    have i := jL_le (L := r) (x := y + 1) (by omega) (fun z hz => h2 z hz) h3
    have j : 2 ^ x ≤ 2 ^ y := Nat.pow_le_pow_right (by decide) (h y List.mem_cons_self)
    rw [p2s] at i
    show 2 ^ y + jL r + 2 ^ x ≤ 2 ^ 35
    omega
theorem jL_mul : ∀ {L : List Nat} {x : Nat}, (∀ y, y ∈ L → x < y) → ∃ s, jL L = 2 ^ (x + 1) * s
  | [], x, _ => ⟨0, rfl⟩
  | y :: r, x, h => by
    obtain ⟨s, e⟩ := jL_mul (L := r) (x := x) (fun z hz => h z (List.mem_cons_of_mem _ hz))
    have hy := h y List.mem_cons_self
    refine ⟨2 ^ (y - (x + 1)) + s, ?_⟩
    show 2 ^ y + jL r = _
    rw [e, Nat.mul_add, ← Nat.pow_add, show x + 1 + (y - (x + 1)) = y by omega]
theorem low1 (x s : Nat) : (2 ^ (x + 1) * s + 2 ^ x) &&& (2 ^ (x + 1) * s + (2 ^ x - 1)) = 2 ^ (x + 1) * s := by
  have l1 : 2 ^ x < 2 ^ (x + 1) := by rw [p2s]; have := Nat.two_pow_pos x; omega
  apply Nat.eq_of_testBit_eq
  intro j
  have e0 : (2 ^ (x + 1) * s).testBit j = (2 ^ (x + 1) * s + 0).testBit j := congrArg (fun z => Nat.testBit z j) (Nat.add_zero _).symm
  rw [e0, Nat.testBit_and, Nat.testBit_two_pow_mul_add s l1, Nat.testBit_two_pow_mul_add s (show 2 ^ x - 1 < 2 ^ (x + 1) by omega), Nat.testBit_two_pow_mul_add s (Nat.two_pow_pos (x + 1))]
  by_cases h : j < x + 1
  · rw [if_pos h, if_pos h, if_pos h, Nat.testBit_two_pow, Nat.testBit_two_pow_sub_one, Nat.zero_testBit]
    by_cases g : x = j
    · rw [decide_eq_false (show ¬ j < x by omega), Bool.and_false]
    · rw [decide_eq_false g, Bool.false_and]
  · rw [if_neg h, if_neg h, if_neg h, Bool.and_self]
theorem low2 {x s : Nat} (hx : x < 63) (hs : s < 2 ^ (63 - x)) : (2 ^ (x + 1) * s + 2 ^ x) &&& (2 ^ 64 - (2 ^ (x + 1) * s + 2 ^ x)) = 2 ^ x := by
  have l1 : 2 ^ x < 2 ^ (x + 1) := by rw [p2s]; have := Nat.two_pow_pos x; omega
  have e : 2 ^ 64 - (2 ^ (x + 1) * s + 2 ^ x) = 2 ^ (x + 1) * (2 ^ (63 - x) - (s + 1)) + 2 ^ x := by
    have e1 : 2 ^ (x + 1) * 2 ^ (63 - x) = 2 ^ 64 := by rw [← Nat.pow_add, show x + 1 + (63 - x) = 64 by omega]
    have e2 : 2 ^ (x + 1) * (s + 1) ≤ 2 ^ (x + 1) * 2 ^ (63 - x) := Nat.mul_le_mul_left _ hs
    rw [Nat.mul_sub, e1]
    rw [e1, Nat.mul_add, Nat.mul_one] at e2
    rw [Nat.mul_add, Nat.mul_one]
    have e3 := p2s x
    generalize 2 ^ (x + 1) * s = A at *
    omega
  rw [e]
  apply Nat.eq_of_testBit_eq
  intro j
  rw [Nat.testBit_and, Nat.testBit_two_pow_mul_add s l1, Nat.testBit_two_pow_mul_add _ l1]
  by_cases h : j < x + 1
  · rw [if_pos h, if_pos h, Bool.and_self]
  · rw [if_neg h, if_neg h, Nat.testBit_two_pow_sub_succ hs, Nat.testBit_two_pow, decide_eq_false (show ¬ x = j by omega)]
    cases s.testBit (j - (x + 1)) <;> simp
theorem j_low {x : Int64} {m t : Nat} (h : x.toInt = (m : Int)) (hm : 0 < m) (e : m &&& (2 ^ 64 - m) = t) (ht : t < 2 ^ 62) : (x &&& -x).toInt = (t : Int) := by
  obtain ⟨e1, l1⟩ := jN_t h
  have e2 : jN (-x) = 2 ^ 64 - m := by
    unfold jN at *
    rw [Int64.toBitVec_neg, BitVec.toNat_neg, e1]
    exact Nat.mod_eq_of_lt (by omega)
  have e3 : jN (x &&& -x) = t := by
    unfold jN at *
    rw [Int64.toBitVec_and, BitVec.toNat_and, e1, e2, e]
  rw [t_jN (by rw [e3]; omega), e3]
/-- the lowest of a rising list: taken off, and alone -/
theorem jL_low {x : Nat} {r : List Nat} (h : ris (x :: r)) : jL (x :: r) &&& (jL (x :: r) - 1) = jL r ∧ jL (x :: r) &&& (2 ^ 64 - jL (x :: r)) = 2 ^ x ∧ 0 < jL (x :: r) ∧ jL (x :: r) < 2 ^ 35 := by
  obtain ⟨⟨h1, h2⟩, h3⟩ := id h
  obtain ⟨s, e⟩ := jL_mul (L := r) (x := x) h2
  have b := jL_le (L := x :: r) (x := 0) (by omega) (fun _ _ => Nat.zero_le _) h
  have p := Nat.two_pow_pos x
  have e2 : jL (x :: r) = 2 ^ (x + 1) * s + 2 ^ x := by
    show 2 ^ x + jL r = _
    rw [e]
    omega
  have hs : s < 2 ^ (63 - x) := by
    have e1 : 2 ^ (x + 1) * 2 ^ (63 - x) = 2 ^ 64 := by rw [← Nat.pow_add, show x + 1 + (63 - x) = 64 by omega]
    have e3 : 2 ^ (x + 1) * s < 2 ^ (x + 1) * 2 ^ (63 - x) := by rw [e1]; omega
    exact Nat.lt_of_mul_lt_mul_left e3
  refine ⟨?_, ?_, by omega, by omega⟩
  · rw [e2, show 2 ^ (x + 1) * s + 2 ^ x - 1 = 2 ^ (x + 1) * s + (2 ^ x - 1) by omega, low1, e]
  · rw [e2]
    exact low2 (by omega) hs
/-! ===== the bits of a long counted ===== -/
def jush (x : Int64) (y : Int32) : Int64 := (x.toUInt64 >>> (y.toInt64.toUInt64 &&& Int64.toUInt64 63)).toInt64
theorem xlushr {M : amM} {pc a b d : Nat} {L : List (Option Value)} {st : List Value} {hp : amH} {Q : xQ} (q : Nat) {x : Int64} {y : Int32} (h : xI M pc .lushr a b) (e : q = pc + 1) (hw : xV d M q L (.long (jush x y) :: st) hp Q) : xV d M pc L (.int y :: .long x :: st) hp Q := by
  refine xstep h (fun cl hl => ⟨cl, ?_, hl⟩) hw
  subst e
  simp [amDo, amStep, amLI, jush]
theorem j_eq {x y : Int64} (h : x.toInt = y.toInt) : x = y := Int64.toInt_inj.mp h
def bj1 (x : Int64) : Int64 := x - (jush x 1 &&& 6148914691236517205)
def bj2 (x : Int64) : Int64 := (x &&& 3689348814741910323) + (jush x 2 &&& 3689348814741910323)
def bj3 (x : Int64) : Int64 := (x + jush x 4) &&& 1085102592571150095
def bjS (k : Int32) (x : Int64) : Int64 := x + jush x k
def bcJF (x : Int64) : Int32 := (bjS 32 (bjS 16 (bjS 8 (bj3 (bj2 (bj1 x)))))).toInt32 &&& 127
theorem bj_pow : ∀ x : Fin 36, (bcJF (Int64.ofNat (2 ^ x.1 - 1))).toInt = (x.1 : Int) := by decide +kernel
theorem u344 : bUp 0 am_m344.1 = true := by decide +kernel
theorem k_bcJ {d p : Nat} {hp : amH} {R : xQ} {x : Int64} (hx : x.toInt = ((2 ^ p - 1 : Nat) : Int)) (hp36 : p < 36) (hR : ∀ r : Int32, r.toInt = (p : Int) → R (.inl (some (.int r))) hp) : xK d 344 [.long x] hp R := by
  have q := bj_pow ⟨p, hp36⟩
  have l1 : 2 ^ p ≤ 2 ^ 35 := Nat.pow_le_pow_right (by decide) (by omega)
  have ex : x = Int64.ofNat (2 ^ p - 1) := j_eq (by rw [hx, Int64.toInt_ofNat_of_lt (by omega)])
  have q : (bcJF (Int64.ofNat (2 ^ p - 1))).toInt = (p : Int) := q
  rw [← ex] at q
  refine xinJ (M := am_m344) rfl rfl rfl ?_
  refine xlld 1 ⟨u344, _, rfl⟩ rfl rfl ?_
  refine xlld 2 ⟨u344, _, rfl⟩ rfl rfl ?_
  refine xcst 3 (1) ⟨u344, _, rfl⟩ rfl (by decide) (fun z2 h2 => ?_)
  obtain rfl : z2 = (1 : Int32) := x_eq.mpr (by rw [h2]; decide)
  refine xlushr 4 ⟨u344, _, rfl⟩ rfl ?_
  refine xldc2 7 (6148914691236517205) ⟨u344, _, rfl⟩ rfl (by decide +kernel) (fun z4 h4 => ?_)
  obtain rfl : z4 = (6148914691236517205 : Int64) := j_eq (by rw [h4]; decide +kernel)
  refine xland 8 ⟨u344, _, rfl⟩ rfl ?_
  refine xlsub 9 ⟨u344, _, rfl⟩ rfl ?_
  refine xlst 10 ⟨u344, _, rfl⟩ rfl rfl ?_
  refine xlld 11 ⟨u344, _, rfl⟩ rfl rfl ?_
  refine xldc2 14 (3689348814741910323) ⟨u344, _, rfl⟩ rfl (by decide +kernel) (fun z11 h11 => ?_)
  obtain rfl : z11 = (3689348814741910323 : Int64) := j_eq (by rw [h11]; decide +kernel)
  refine xland 15 ⟨u344, _, rfl⟩ rfl ?_
  refine xlld 16 ⟨u344, _, rfl⟩ rfl rfl ?_
  refine xcst 17 (2) ⟨u344, _, rfl⟩ rfl (by decide) (fun z16 h16 => ?_)
  obtain rfl : z16 = (2 : Int32) := x_eq.mpr (by rw [h16]; decide)
  refine xlushr 18 ⟨u344, _, rfl⟩ rfl ?_
  refine xldc2 21 (3689348814741910323) ⟨u344, _, rfl⟩ rfl (by decide +kernel) (fun z18 h18 => ?_)
  obtain rfl : z18 = (3689348814741910323 : Int64) := j_eq (by rw [h18]; decide +kernel)
  refine xland 22 ⟨u344, _, rfl⟩ rfl ?_
  refine xladd 23 ⟨u344, _, rfl⟩ rfl ?_
  refine xlst 24 ⟨u344, _, rfl⟩ rfl rfl ?_
  refine xlld 25 ⟨u344, _, rfl⟩ rfl rfl ?_
  refine xlld 26 ⟨u344, _, rfl⟩ rfl rfl ?_
  refine xcst 27 (4) ⟨u344, _, rfl⟩ rfl (by decide) (fun z26 h26 => ?_)
  obtain rfl : z26 = (4 : Int32) := x_eq.mpr (by rw [h26]; decide)
  refine xlushr 28 ⟨u344, _, rfl⟩ rfl ?_
  refine xladd 29 ⟨u344, _, rfl⟩ rfl ?_
  refine xldc2 32 (1085102592571150095) ⟨u344, _, rfl⟩ rfl (by decide +kernel) (fun z29 h29 => ?_)
  obtain rfl : z29 = (1085102592571150095 : Int64) := j_eq (by rw [h29]; decide +kernel)
  refine xland 33 ⟨u344, _, rfl⟩ rfl ?_
  refine xlst 34 ⟨u344, _, rfl⟩ rfl rfl ?_
  refine xlld 35 ⟨u344, _, rfl⟩ rfl rfl ?_
  refine xlld 36 ⟨u344, _, rfl⟩ rfl rfl ?_
  refine xbip 38 (8) ⟨u344, _, rfl⟩ rfl (by decide) (fun z36 h36 => ?_)
  obtain rfl : z36 = (8 : Int32) := x_eq.mpr (by rw [h36]; decide)
  refine xlushr 39 ⟨u344, _, rfl⟩ rfl ?_
  refine xladd 40 ⟨u344, _, rfl⟩ rfl ?_
  refine xlst 41 ⟨u344, _, rfl⟩ rfl rfl ?_
  refine xlld 42 ⟨u344, _, rfl⟩ rfl rfl ?_
  refine xlld 43 ⟨u344, _, rfl⟩ rfl rfl ?_
  refine xbip 45 (16) ⟨u344, _, rfl⟩ rfl (by decide) (fun z43 h43 => ?_)
  obtain rfl : z43 = (16 : Int32) := x_eq.mpr (by rw [h43]; decide)
  refine xlushr 46 ⟨u344, _, rfl⟩ rfl ?_
  refine xladd 47 ⟨u344, _, rfl⟩ rfl ?_
  refine xlst 48 ⟨u344, _, rfl⟩ rfl rfl ?_
  refine xlld 49 ⟨u344, _, rfl⟩ rfl rfl ?_
  refine xlld 50 ⟨u344, _, rfl⟩ rfl rfl ?_
  refine xbip 52 (32) ⟨u344, _, rfl⟩ rfl (by decide) (fun z50 h50 => ?_)
  obtain rfl : z50 = (32 : Int32) := x_eq.mpr (by rw [h50]; decide)
  refine xlushr 53 ⟨u344, _, rfl⟩ rfl ?_
  refine xladd 54 ⟨u344, _, rfl⟩ rfl ?_
  refine xlst 55 ⟨u344, _, rfl⟩ rfl rfl ?_
  refine xlld 56 ⟨u344, _, rfl⟩ rfl rfl ?_
  refine xl2i 57 ⟨u344, _, rfl⟩ rfl ?_
  refine xbip 59 (127) ⟨u344, _, rfl⟩ rfl (by decide) (fun z57 h57 => ?_)
  obtain rfl : z57 = (127 : Int32) := x_eq.mpr (by rw [h57]; decide)
  refine xand 60 ⟨u344, _, rfl⟩ rfl ?_
  exact xret ⟨u344, _, rfl⟩ rfl (hR (bcJF x) q)
