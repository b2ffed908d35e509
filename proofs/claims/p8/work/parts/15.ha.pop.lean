/-! ===== bits counted, as numbers ===== -/
def pN (x : Int32) : Nat := x.toBitVec.toNat
theorem pN_t {x : Int32} {n : Nat} (h : x.toInt = (n : Int)) : pN x = n := by
  have e : x.toInt = x.toBitVec.toInt := rfl
  rw [BitVec.toInt_eq_toNat_cond] at e
  have := x.toBitVec.isLt
  unfold pN
  split at e <;> omega
theorem t_pN {x : Int32} (h : pN x < 2147483648) : x.toInt = (pN x : Int) := by
  have e : x.toInt = x.toBitVec.toInt := rfl
  rw [BitVec.toInt_eq_toNat_cond] at e
  unfold pN at h ⊢
  split at e <;> omega
theorem pN_and (x y : Int32) : pN (x &&& y) = pN x &&& pN y := by
  unfold pN
  rw [Int32.toBitVec_and, BitVec.toNat_and]
theorem pN_add {x y : Int32} (h : pN x + pN y < 4294967296) : pN (x + y) = pN x + pN y := by
  unfold pN at *
  rw [Int32.toBitVec_add, BitVec.toNat_add]
  exact Nat.mod_eq_of_lt h
theorem pN_sub {x y : Int32} (h : pN y ≤ pN x) : pN (x - y) = pN x - pN y := by
  have l := x.toBitVec.isLt
  unfold pN at *
  rw [Int32.toBitVec_sub, BitVec.toNat_sub]
  omega
theorem pN_ush (x k : Int32) (m : Nat) (hk : (k.toUInt32 &&& Int32.toUInt32 31).toNat % 32 = m) : pN (ush x k) = pN x >>> m := by
  have h := UInt32.toNat_shiftRight x.toUInt32 (k.toUInt32 &&& Int32.toUInt32 31)
  rw [hk] at h
  exact h
def bn1 (n : Nat) : Nat := n - (n >>> 1 &&& 1431655765)
def bn2 (n : Nat) : Nat := (n &&& 858993459) + (n >>> 2 &&& 858993459)
def bn3 (n : Nat) : Nat := (n + n >>> 4) &&& 252645135
def bn4 (n : Nat) : Nat := n + n >>> 8
def bn5 (n : Nat) : Nat := n + n >>> 16
def bcM (n : Nat) : Nat := bn5 (bn4 (bn3 (bn2 (bn1 n)))) &&& 63
theorem sr_le (n k : Nat) : n >>> k ≤ n := by rw [Nat.shiftRight_eq_div_pow]; exact Nat.div_le_self _ _
theorem bs1 {x : Int32} (h : pN x < 32768) : pN (bc1 x) = bn1 (pN x) ∧ bn1 (pN x) < 32768 := by
  have c : pN (Int32.ofNat 1431655765) = 1431655765 := by decide +kernel
  have e := pN_and (ush x 1) (Int32.ofNat 1431655765)
  rw [pN_ush x 1 1 (by decide), c] at e
  have l1 : pN x >>> 1 &&& 1431655765 ≤ pN x >>> 1 := Nat.and_le_left
  have l2 := sr_le (pN x) 1
  unfold bc1 bn1
  refine ⟨by rw [pN_sub (by omega), e], by omega⟩
theorem bs2 {x : Int32} (h : pN x < 32768) : pN (bc2 x) = bn2 (pN x) ∧ bn2 (pN x) < 65536 := by
  have c : pN (Int32.ofNat 858993459) = 858993459 := by decide +kernel
  have e := pN_and (ush x 2) (Int32.ofNat 858993459)
  rw [pN_ush x 2 2 (by decide), c] at e
  have e2 := pN_and x (Int32.ofNat 858993459)
  rw [c] at e2
  have l1 : pN x >>> 2 &&& 858993459 ≤ pN x >>> 2 := Nat.and_le_left
  have l2 := sr_le (pN x) 2
  have l3 : pN x &&& 858993459 ≤ pN x := Nat.and_le_left
  unfold bc2 bn2
  refine ⟨by rw [pN_add (by omega), e, e2], by omega⟩
theorem bs3 {x : Int32} (h : pN x < 65536) : pN (bc3 x) = bn3 (pN x) ∧ bn3 (pN x) < 131072 := by
  have c : pN (Int32.ofNat 252645135) = 252645135 := by decide +kernel
  have e := pN_ush x 4 4 (by decide)
  have l2 := sr_le (pN x) 4
  have e1 : pN (x + ush x 4) = pN x + pN x >>> 4 := by rw [pN_add (by omega), e]
  have l1 : (pN x + pN x >>> 4) &&& 252645135 ≤ pN x + pN x >>> 4 := Nat.and_le_left
  unfold bc3 bn3
  refine ⟨by rw [pN_and, e1, c], by omega⟩
theorem bs4 {x : Int32} (h : pN x < 131072) : pN (bc4 x) = bn4 (pN x) ∧ bn4 (pN x) < 262144 := by
  have e := pN_ush x 8 8 (by decide)
  have l2 := sr_le (pN x) 8
  unfold bc4 bn4
  refine ⟨by rw [pN_add (by omega), e], by omega⟩
theorem bs5 {x : Int32} (h : pN x < 262144) : pN (bc5 x) = bn5 (pN x) ∧ bn5 (pN x) < 524288 := by
  have e := pN_ush x 16 16 (by decide)
  have l2 := sr_le (pN x) 16
  unfold bc5 bn5
  refine ⟨by rw [pN_add (by omega), e], by omega⟩
theorem bcF_nat {x : Int32} (h : pN x < 32768) : (bcF x).toInt = ((bcM (pN x) : Nat) : Int) := by
  have c : pN (63 : Int32) = 63 := by decide
  obtain ⟨a1, b1⟩ := bs1 h
  obtain ⟨a2, b2⟩ := bs2 (x := bc1 x) (by omega)
  rw [a1] at a2 b2
  obtain ⟨a3, b3⟩ := bs3 (x := bc2 (bc1 x)) (by omega)
  rw [a2] at a3 b3
  obtain ⟨a4, b4⟩ := bs4 (x := bc3 (bc2 (bc1 x))) (by omega)
  rw [a3] at a4 b4
  obtain ⟨a5, b5⟩ := bs5 (x := bc4 (bc3 (bc2 (bc1 x)))) (by omega)
  rw [a4] at a5 b5
  have e : pN (bcF x) = bcM (pN x) := by
    unfold bcF bcM
    rw [pN_and, a5, c]
  have l : bcM (pN x) ≤ 63 := Nat.and_le_right
  rw [t_pN (by omega), e]
def pq (m : Nat) : Nat := m % 2 + m / 2 % 2 + m / 4 % 2 + m / 8 % 2 + m / 16 % 2 + m / 32 % 2 + m / 64 % 2 + m / 128 % 2 + m / 256 % 2 + m / 512 % 2 + m / 1024 % 2 + m / 2048 % 2 + m / 4096 % 2 + m / 8192 % 2 + m / 16384 % 2
def bmOk (i : Nat) : Bool := Nat.beq (bcM i) (pq i)
theorem bmk_0 : (List.range 4096).all (fun i => bmOk (i + 0)) = true := by decide +kernel
theorem bmk_1 : (List.range 4096).all (fun i => bmOk (i + 4096)) = true := by decide +kernel
theorem bmk_2 : (List.range 4096).all (fun i => bmOk (i + 8192)) = true := by decide +kernel
theorem bmk_3 : (List.range 4096).all (fun i => bmOk (i + 12288)) = true := by decide +kernel
theorem bmk_4 : (List.range 4096).all (fun i => bmOk (i + 16384)) = true := by decide +kernel
theorem bmk_5 : (List.range 4096).all (fun i => bmOk (i + 20480)) = true := by decide +kernel
theorem bmk_6 : (List.range 4096).all (fun i => bmOk (i + 24576)) = true := by decide +kernel
theorem bmk_7 : (List.range 4096).all (fun i => bmOk (i + 28672)) = true := by decide +kernel
theorem bmk_all {i : Nat} (h : i < 32768) : bmOk i = true := by
  have key : ∀ a : Nat, (List.range 4096).all (fun i => bmOk (i + a)) = true → a ≤ i → i < a + 4096 → bmOk i = true := by
    intro a ha h1 h2
    have := List.all_eq_true.mp ha (i - a) (List.mem_range.mpr (by omega))
    rwa [Nat.sub_add_cancel h1] at this
  by_cases h0 : i < 4096
  · exact key 0 bmk_0 (by omega) (by omega)
  by_cases h1 : i < 8192
  · exact key 4096 bmk_1 (by omega) (by omega)
  by_cases h2 : i < 12288
  · exact key 8192 bmk_2 (by omega) (by omega)
  by_cases h3 : i < 16384
  · exact key 12288 bmk_3 (by omega) (by omega)
  by_cases h4 : i < 20480
  · exact key 16384 bmk_4 (by omega) (by omega)
  by_cases h5 : i < 24576
  · exact key 20480 bmk_5 (by omega) (by omega)
  by_cases h6 : i < 28672
  · exact key 24576 bmk_6 (by omega) (by omega)
  by_cases h7 : i < 32768
  · exact key 28672 bmk_7 (by omega) (by omega)
  omega
theorem bcF_pq {i : Nat} (h : i < 32768) : (bcF (Int32.ofNat i)).toInt = ((pq i : Nat) : Int) := by
  have e : pN (Int32.ofNat i) = i := pN_t (Int32.toInt_ofNat_of_lt (by omega))
  rw [bcF_nat (by omega), e, Nat.eq_of_beq_eq_true (bmk_all h)]
def b3Ok (i : Nat) : Bool := let x := Int32.ofNat i
  match Nat.beq (bcF x).toInt.toNat 3 with
  | true => let y := x &&& (x - 1)
    let a := (ntF x).toInt.toNat
    let b := (ntF y).toInt.toNat
    let c := (ntF (y &&& (y - 1))).toInt.toNat
    decide (0 ≤ (ntF x).toInt) && (decide (0 ≤ (ntF y).toInt) && (Nat.blt a b && (Nat.blt b c && (Nat.blt c 15 && Nat.beq i (2 ^ a ||| 2 ^ b ||| 2 ^ c)))))
  | false => true
def b3N (i : Nat) : Bool := let x := Int32.ofNat i
  match Nat.beq (pq i) 3 with
  | true => let y := x &&& (x - 1)
    let a := (ntF x).toInt.toNat
    let b := (ntF y).toInt.toNat
    let c := (ntF (y &&& (y - 1))).toInt.toNat
    decide (0 ≤ (ntF x).toInt) && (decide (0 ≤ (ntF y).toInt) && (Nat.blt a b && (Nat.blt b c && (Nat.blt c 15 && Nat.beq i (2 ^ a ||| 2 ^ b ||| 2 ^ c)))))
  | false => true
theorem b3n_0 : (List.range 4096).all (fun i => b3N (i + 0)) = true := by decide +kernel
theorem b3n_1 : (List.range 4096).all (fun i => b3N (i + 4096)) = true := by decide +kernel
theorem b3n_2 : (List.range 4096).all (fun i => b3N (i + 8192)) = true := by decide +kernel
theorem b3n_3 : (List.range 4096).all (fun i => b3N (i + 12288)) = true := by decide +kernel
theorem b3n_4 : (List.range 4096).all (fun i => b3N (i + 16384)) = true := by decide +kernel
theorem b3n_5 : (List.range 4096).all (fun i => b3N (i + 20480)) = true := by decide +kernel
theorem b3n_6 : (List.range 4096).all (fun i => b3N (i + 24576)) = true := by decide +kernel
theorem b3n_7 : (List.range 4096).all (fun i => b3N (i + 28672)) = true := by decide +kernel
theorem b3n_all {i : Nat} (h : i < 32768) : b3N i = true := by
  have key : ∀ a : Nat, (List.range 4096).all (fun i => b3N (i + a)) = true → a ≤ i → i < a + 4096 → b3N i = true := by
    intro a ha h1 h2
    have := List.all_eq_true.mp ha (i - a) (List.mem_range.mpr (by omega))
    rwa [Nat.sub_add_cancel h1] at this
  by_cases h0 : i < 4096
  · exact key 0 b3n_0 (by omega) (by omega)
  by_cases h1 : i < 8192
  · exact key 4096 b3n_1 (by omega) (by omega)
  by_cases h2 : i < 12288
  · exact key 8192 b3n_2 (by omega) (by omega)
  by_cases h3 : i < 16384
  · exact key 12288 b3n_3 (by omega) (by omega)
  by_cases h4 : i < 20480
  · exact key 16384 b3n_4 (by omega) (by omega)
  by_cases h5 : i < 24576
  · exact key 20480 b3n_5 (by omega) (by omega)
  by_cases h6 : i < 28672
  · exact key 24576 b3n_6 (by omega) (by omega)
  by_cases h7 : i < 32768
  · exact key 28672 b3n_7 (by omega) (by omega)
  omega
theorem b3_all {i : Nat} (h : i < 32768) : b3Ok i = true := by
  have k := b3n_all h
  unfold b3N at k
  unfold b3Ok
  dsimp only at k ⊢
  rw [bcF_pq h, Int.toNat_natCast]
  exact k
