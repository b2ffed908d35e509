/-! ##### 19.m.004.26c ##### -/
section
/-! ===== the class's tokens: words; errors ===== -/
section XV2
variable {M : amM} {pc a b d : Nat} {L : List (Option Value)} {st : List Value} {hp : amH} {Q : xQ}
theorem xchrSE (q n : Nat) {i : _} {r : Nat} {l : List Int32} {x : Int32} (h : xI M pc (.invokevirtual i) a 8) (e : q = pc + 3) (hl : amWd r = some l ∧ l.length ≤ 100) (h8 : xS8 st = true) (hn : x.toInt = (n : Int)) (x1 : n < l.length) (hw : ∀ z : Int32, z.toInt = (l.getD n 0).toInt → xV d M q L (.int z :: st) hp Q) : xV d M pc L (.int x :: .ref r :: st) hp Q := by
  obtain ⟨e1, hin⟩ := rw_in (i := x) (n := n) (m := l.length) hn x1
  refine xstep h (fun cl hcl => ⟨cl, ?_, hcl⟩) (hw (l.getD n 0) rfl)
  subst e
  have h8 := Nat.le_of_ble_eq_true h8
  simp only [amDo, amChrS, hl.1]
  rw [if_neg (by decide), if_pos trivial, if_pos ⟨hin, h8⟩, e1]
end XV2
theorem ckK_1 {y : tY} {s : Nat} : ckK y s = 1 ↔ tK y s = 1 := by
  unfold ckK
  constructor
  · intro h
    split at h
    · omega
    · exact h
  · intro h
    rw [if_neg (by omega)]
    exact h
theorem ckK_2 {y : tY} {s : Nat} : ckK y s = 2 ↔ (tK y s = 2 ∧ tE y s ≤ s + 2) := by
  unfold ckK
  constructor
  · intro h
    split at h
    · omega
    · next g => exact ⟨h, Nat.le_of_not_lt (fun z => g ⟨h, by omega⟩)⟩
  · intro h
    rw [if_neg (fun z => z.2 h.2)]
    exact h.1
theorem ckK_3 {y : tY} {s : Nat} : ckK y s = 3 ↔ tK y s = 3 := by
  unfold ckK
  constructor
  · intro h
    split at h
    · omega
    · exact h
  · intro h
    rw [if_neg (by omega)]
    exact h
theorem ckK_0 {y : tY} {s : Nat} : ckK y s = 0 ↔ tK y s = 0 := by
  unfold ckK
  constructor
  · intro h
    split at h
    · omega
    · exact h
  · intro h
    rw [if_neg (by omega)]
    exact h
theorem l84 {d : Nat} {hp : amH} {R : xQ} {y : tY} {s r : Nat} {l : List Int32} (hl : amWd r = some l ∧ l.length ≤ 100) (hH : bHk 84 bTT hp) (Y : cB hp = y) (h6 : rN hp 1 6 = (s : Int)) (hs : s ≤ 600)
    (hall : (∀ k, k < l.length → y (s + k) = (l.getD k 0).toInt) → tWd y s l = true)
    (hR : ∀ z : Int32, ((z.toInt = 1 ∧ tWd y s l = true) ∨ (z.toInt = 0 ∧ tWd y s l = false)) → R (.inl (some (.int z))) hp) :
    ∀ (jj q : Nat) (k : Int32), k.toInt = (q : Int) → q + jj = l.length → (∀ k, k < q → y (s + k) = (l.getD k 0).toInt) → xV (d + 1) am_m84 28 [some (.ref 1), some (.ref r), some (.int k)] [] hp R := by
  intro jj
  induction jj using Nat.strongRecOn with
  | ind jj ih =>
    intro q k hk hjj hq
    have hl2 := hl.2
    refine xild 29 ⟨u84, _, rfl⟩ rfl rfl ?_
    refine xald 30 ⟨u84, _, rfl⟩ rfl rfl ?_
    refine xlenS 33 ⟨u84, _, rfl⟩ rfl hl rfl (fun z30 h30 => ?_)
    refine xcmp_ge 36 ⟨u84, _, rfl⟩ rfl (fun c33 => ?_) (fun c33 => ?_)
    · refine xcst 63 (1) ⟨u84, _, rfl⟩ rfl (by decide) (fun z62 h62 => ?_)
      exact xretB ⟨u84, _, rfl⟩ rfl (by omega) (hR _ (Or.inl ⟨by omega, hall (fun k hk => hq k (by omega))⟩))
    · refine xald 37 ⟨u84, _, rfl⟩ rfl rfl ?_
      refine xald 38 ⟨u84, _, rfl⟩ rfl rfl ?_
      refine xgetC 41 hH ⟨u84, _, rfl⟩ rfl (by decide) (by decide) rfl rfl (by decide) (fun z38 h38 => ?_)
      refine xild 42 ⟨u84, _, rfl⟩ rfl rfl ?_
      refine xadd 43 _ ⟨u84, _, rfl⟩ rfl rfl (by omega) (by omega) (fun z42 h42 => ?_)
      refine xcallC 46 (o := 1) [.int _] [] hH ⟨u84, _, rfl⟩ rfl rfl (by decide) rfl (by decide) rfl ⟨rfl, rfl, rfl, rfl⟩ rfl (k_cB hH Y (q := s + q) (by omega) (fun z43 h43 => ⟨_, rfl, ?_⟩))
      refine xald 47 ⟨u84, _, rfl⟩ rfl rfl ?_
      refine xild 48 ⟨u84, _, rfl⟩ rfl rfl ?_
      refine xchrSE 51 q ⟨u84, _, rfl⟩ rfl hl rfl (by omega) (by omega) (fun z48 h48 => ?_)
      refine xcmp_eq 54 ⟨u84, _, rfl⟩ rfl (fun c51 => ?_) (fun c51 => ?_)
      · refine xinc 59 (1) ⟨u84, _, rfl⟩ rfl rfl rfl (by decide) (by omega) (by omega) (fun z56 h56 => ?_)
        refine xgoto ⟨u84, _, rfl⟩ ?_
        exact ih (jj - 1) (by omega) (q + 1) _ (by omega) (by omega) (fun k k1 => by rcases Nat.lt_or_ge k q with g | g; exact hq k g; rw [show k = q by omega]; omega)
      · refine xcst 55 (0) ⟨u84, _, rfl⟩ rfl (by decide) (fun z54 h54 => ?_)
        exact xretB ⟨u84, _, rfl⟩ rfl (by omega) (hR _ (Or.inr ⟨by omega, by cases e9 : tWd y s l; rfl; have := (of_decide_eq_true e9).2.2 q (by omega); omega⟩))
/-- is the token this word -/
theorem k_cw {d : Nat} {hp : amH} {R : xQ} {y : tY} {s r : Nat} {l : List Int32} (hok : amOk 84 (.ref r) = true) (hl : amWd r = some l ∧ l.length ≤ 100) (hH : bHk 84 bTT hp) (Y : cB hp = y) (T : cT hp y s) (hs : s ≤ 600)
    (hR : ∀ z : Int32, ((z.toInt = 1 ∧ tWd y s l = true) ∨ (z.toInt = 0 ∧ tWd y s l = false)) → R (.inl (some (.int z))) hp) : xK (d + 1) 84 [.ref 1, .ref r] hp R := by
  obtain ⟨h6, h4, h5, -⟩ := T
  have hE := tE_le (by rw [← Y]; exact cB_ok hH : tOk (rN hp 1 0).toNat y) (s := s)
  have b0 := b1_0 hH
  have hE2 : tE y s ≤ 100000 ∨ True := Or.inr trivial
  have b4 := rb_c hH (c := 1) (f := 4) (by decide) rfl rfl (by decide)
  have hge := tE_ge (y := y) (s := s)
  refine xin (M := am_m84) rfl rfl (by unfold xAv; simp only [List.all_cons, List.all_nil, hok]; rfl) ?_
  refine xald 1 ⟨u84, _, rfl⟩ rfl rfl ?_
  refine xgetC 4 hH ⟨u84, _, rfl⟩ rfl (by decide) (by decide) rfl rfl (by decide) (fun z1 h1 => ?_)
  refine xcst 5 (1) ⟨u84, _, rfl⟩ rfl (by decide) (fun z4 h4 => ?_)
  refine xcmp_ne 8 ⟨u84, _, rfl⟩ rfl (fun c5 => ?_) (fun c5 => ?_)
  · refine xcst 25 (0) ⟨u84, _, rfl⟩ rfl (by decide) (fun z24 h24 => ?_)
    exact xretB ⟨u84, _, rfl⟩ rfl (by omega) (hR _ (Or.inr ⟨by omega, by cases e9 : tWd y s l; rfl; have := ckK_1.mpr (of_decide_eq_true e9).1; omega⟩))
  · refine xald 9 ⟨u84, _, rfl⟩ rfl rfl ?_
    refine xgetC 12 hH ⟨u84, _, rfl⟩ rfl (by decide) (by decide) rfl rfl (by decide) (fun z9 h9 => ?_)
    refine xald 13 ⟨u84, _, rfl⟩ rfl rfl ?_
    refine xgetC 16 hH ⟨u84, _, rfl⟩ rfl (by decide) (by decide) rfl rfl (by decide) (fun z13 h13 => ?_)
    refine xsub 17 _ ⟨u84, _, rfl⟩ rfl rfl (by omega) (by omega) (fun z16 h16 => ?_)
    refine xald 18 ⟨u84, _, rfl⟩ rfl rfl ?_
    refine xlenS 21 ⟨u84, _, rfl⟩ rfl hl rfl (fun z18 h18 => ?_)
    refine xcmp_eq 24 ⟨u84, _, rfl⟩ rfl (fun c21 => ?_) (fun c21 => ?_)
    · refine xcst 27 (0) ⟨u84, _, rfl⟩ rfl (by decide) (fun z26 h26 => ?_)
      refine xist 28 ⟨u84, _, rfl⟩ rfl rfl ?_
      exact l84 hl hH Y h6 hs (fun g => decide_eq_true ⟨ckK_1.mp (by omega), by omega, g⟩) hR l.length 0 _ (by omega) (by omega) (fun k k1 => by omega)
    · refine xcst 25 (0) ⟨u84, _, rfl⟩ rfl (by decide) (fun z24 h24 => ?_)
      exact xretB ⟨u84, _, rfl⟩ rfl (by omega) (hR _ (Or.inr ⟨by omega, by cases e9 : tWd y s l; rfl; have := (of_decide_eq_true e9).2.1; omega⟩))
def wCf : List (Nat × Nat) := [(1, 1), (1, 2)]
/-- an error at the token -/
theorem k_cf {d : Nat} {hp : amH} {R : xQ} {c : Int32} (hH : bHk 84 bTT hp) (hR : ∀ (z : Int32) hp1, z.toInt = 0 → bHk 84 bTT hp1 → bFr wCf hp hp1 → rN hp1 1 1 = c.toInt → rN hp1 1 2 = rN hp 1 6 → R (.inl (some (.int z))) hp1) : xK d 80 [.ref 1, .int c] hp R := by
  have b1 := aMin c
  have b2 := aMax c
  refine xin (M := am_m80) rfl rfl rfl ?_
  refine xald 1 ⟨u80, _, rfl⟩ rfl rfl ?_
  refine xild 2 ⟨u80, _, rfl⟩ rfl rfl ?_
  refine xputC 5 hH ⟨u80, _, rfl⟩ rfl (by decide) (by decide) rfl rfl (by decide) ⟨rfl, rfl⟩ (by omega) (by omega) (fun hp2 hH2 U2 => ?_)
  have s2 := U2.1
  have n2_1_6 : rN hp2 (1) 6 = rN hp (1) 6 := rU_ne U2 (by omega)
  refine xald 6 ⟨u80, _, rfl⟩ rfl rfl ?_
  refine xald 7 ⟨u80, _, rfl⟩ rfl rfl ?_
  refine xgetC 10 hH2 ⟨u80, _, rfl⟩ rfl (by decide) (by decide) rfl rfl (by decide) (fun z7 h7 => ?_)
  have bmn := aMin z7
  have bmx := aMax z7
  refine xputC 13 hH2 ⟨u80, _, rfl⟩ rfl (by decide) (by decide) rfl rfl (by decide) ⟨rfl, rfl⟩ (by omega) (by omega) (fun hp10 hH10 U10 => ?_)
  have s10 := U10.1
  have n10_1_1 : rN hp10 (1) 1 = rN hp2 (1) 1 := rU_ne U10 (by omega)
  have n10_1_6 : rN hp10 (1) 6 = rN hp2 (1) 6 := rU_ne U10 (by omega)
  refine xcst 14 (0) ⟨u80, _, rfl⟩ rfl (by decide) (fun z13 h13 => ?_)
  exact xretB ⟨u80, _, rfl⟩ rfl (by omega) (hR _ _ (by omega) hH10 ((rU_fr U2 (by decide)).trans (rU_fr U10 (by decide))) (by omega) (by omega))
end
/-! ##### 19.m.005.26d ##### -/
section
/-! ===== the class's sets of points ===== -/
theorem u68 : bUp 0 am_m68.1 = true := by decide +kernel
theorem u69 : bUp 0 am_m69.1 = true := by decide +kernel
theorem u70 : bUp 0 am_m70.1 = true := by decide +kernel
theorem u71 : bUp 0 am_m71.1 = true := by decide +kernel
section XN
variable {M : amM} {pc a b d : Nat} {L : List (Option Value)} {st : List Value} {hp : amH} {Q : xQ}
theorem xneg (q : Nat) {x : Int32} (h : xI M pc .ineg a b) (e : q = pc + 1) (hw : xV d M q L (.int (-x) :: st) hp Q) : xV d M pc L (.int x :: st) hp Q := by
  refine xstep h (fun cl hl => ⟨cl, ?_, hl⟩) hw
  subst e
  simp [amDo, amStep, amI]
end XN
/-- the sets of three points -/
theorem m3_lt {x y z : Nat} (hx : x < 15) (hy : y < 15) (hz : z < 15) : m3 x y z < 32768 := by
  have h1 : 2 ^ x < 2 ^ 15 := Nat.pow_lt_pow_right (by decide) hx
  have h2 : 2 ^ y < 2 ^ 15 := Nat.pow_lt_pow_right (by decide) hy
  have h3 : 2 ^ z < 2 ^ 15 := Nat.pow_lt_pow_right (by decide) hz
  exact Nat.or_lt_two_pow (Nat.or_lt_two_pow h1 h2) h3
theorem k_three {d : Nat} {hp : amH} {R : xQ} {a b c : Int32} {x y z : Nat} (ha : a.toInt = (x : Int)) (hb : b.toInt = (y : Int)) (hc : c.toInt = (z : Int)) (hx : x < 15) (hy : y < 15) (hz : z < 15) (hR : ∀ r : Int32, r.toInt = ((m3 x y z : Nat) : Int) → R (.inl (some (.int r))) hp) : xK d 68 [.int a, .int b, .int c] hp R := by
  refine xin (M := am_m68) rfl rfl rfl ?_
  refine xcst 1 (1) ⟨u68, _, rfl⟩ rfl (by decide) (fun z0 h0 => ?_)
  refine xild 2 ⟨u68, _, rfl⟩ rfl rfl ?_
  refine xshl 3 ⟨u68, _, rfl⟩ rfl ?_
  refine xcst 4 (1) ⟨u68, _, rfl⟩ rfl (by decide) (fun z3 h3 => ?_)
  refine xild 5 ⟨u68, _, rfl⟩ rfl rfl ?_
  refine xshl 6 ⟨u68, _, rfl⟩ rfl ?_
  refine xor_ 7 ⟨u68, _, rfl⟩ rfl ?_
  refine xcst 8 (1) ⟨u68, _, rfl⟩ rfl (by decide) (fun z7 h7 => ?_)
  refine xild 9 ⟨u68, _, rfl⟩ rfl rfl ?_
  refine xshl 10 ⟨u68, _, rfl⟩ rfl ?_
  refine xor_ 11 ⟨u68, _, rfl⟩ rfl ?_
  exact xret ⟨u68, _, rfl⟩ rfl (hR _ (by have e1 := i_shl h0 ha hx; have e2 := i_shl h3 hb hy; have e3 := i_or e1.1 e2.1 e1.2 e2.2; have e4 := i_shl h7 hc hz; exact (i_or e3.1 e4.1 e3.2 e4.2).1))
theorem k_has {d : Nat} {hp : amH} {R : xQ} {a b : Int32} {m n : Nat} (ha : a.toInt = (m : Int)) (hm : m < 32768) (hb : b.toInt = (n : Int)) (hn : n < 15) (hR : ∀ r : Int32, r.toInt = (if m.testBit n then 1 else 0) → R (.inl (some (.int r))) hp) : xK d 69 [.int a, .int b] hp R := by
  refine xin (M := am_m69) rfl rfl rfl ?_
  refine xild 1 ⟨u69, _, rfl⟩ rfl rfl ?_
  refine xild 2 ⟨u69, _, rfl⟩ rfl rfl ?_
  refine xshr 3 ⟨u69, _, rfl⟩ rfl ?_
  refine xcst 4 (1) ⟨u69, _, rfl⟩ rfl (by decide) (fun z3 h3 => ?_)
  refine xand 5 ⟨u69, _, rfl⟩ rfl ?_
  refine xcst 6 (1) ⟨u69, _, rfl⟩ rfl (by decide) (fun z5 h5 => ?_)
  refine xcmp_ne 9 ⟨u69, _, rfl⟩ rfl (fun c6 => ?_) (fun c6 => ?_)
  · refine xcst 14 (0) ⟨u69, _, rfl⟩ rfl (by decide) (fun z13 h13 => ?_)
    exact xretB ⟨u69, _, rfl⟩ rfl (by omega) (hR _ (by have e := i_bit ha hm hb hn h3; have w := c6; cases g : m.testBit n <;> rw [g] at e <;> simp only [if_true, if_false, Bool.false_eq_true] at e ⊢ <;> omega))
  · refine xcst 10 (1) ⟨u69, _, rfl⟩ rfl (by decide) (fun z9 h9 => ?_)
    refine xgoto ⟨u69, _, rfl⟩ ?_
    exact xretB ⟨u69, _, rfl⟩ rfl (by omega) (hR _ (by have e := i_bit ha hm hb hn h3; have w := c6; cases g : m.testBit n <;> rw [g] at e <;> simp only [if_true, if_false, Bool.false_eq_true] at e ⊢ <;> omega))
/-- the lowest i points left out -/
def clrN : Nat → Nat → Nat
  | 0, m => m
  | i + 1, m => clrN i m &&& (clrN i m - 1)
theorem clr_lt {m : Nat} (h : m < 32768) : ∀ i, clrN i m < 32768
  | 0 => h
  | i + 1 => Nat.lt_of_le_of_lt Nat.and_le_left (clr_lt h i)
theorem i_clr {x o : Int32} {r : Nat} (hx : x.toInt = (r : Int)) (hr : r < 32768) {z : Int32} (hz : z.toInt = x.toInt - 1) : (x &&& z).toInt = ((r &&& (r - 1) : Nat) : Int) := by
  rcases Nat.eq_zero_or_pos r with g | g
  · have : x = 0 := Int32.toInt_inj.mp (by rw [hx, g]; rfl)
    subst this
    subst g
    rw [Int32.zero_and]
    rfl
  · exact (i_and hx (b := r - 1) (by omega) hr).1
def lowN (r : Nat) : Nat := r &&& (4294967296 - r)
theorem i_low {x : Int32} {r : Nat} (hx : x.toInt = (r : Int)) (hr : r < 32768) (h0 : 0 < r) : (x &&& -x).toInt = ((lowN r : Nat) : Int) ∧ lowN r < 32768 := by
  have e1 := bN_t hx
  have l : lowN r < 32768 := Nat.lt_of_le_of_lt Nat.and_le_left hr
  have e2 : bN (x &&& -x) = lowN r := by
    unfold bN lowN at *
    rw [Int32.toBitVec_and, Int32.toBitVec_neg, BitVec.toNat_and, BitVec.toNat_neg, e1, Nat.mod_eq_of_lt (by omega)]
  exact ⟨by rw [t_bN (by omega), e2], l⟩
def bcN (n : Nat) : Int := (bcF (Int32.ofNat n)).toInt
/-- the point at a place of a set -/
def memN (m i : Nat) : Int := if clrN i m = 0 then -1 else bcN (lowN (clrN i m) - 1)
theorem mem_m3 : ∀ x y z : Fin 15, x < y → y < z → memN (m3 x y z) 0 = (x : Nat) ∧ memN (m3 x y z) 1 = (y : Nat) ∧ memN (m3 x y z) 2 = (z : Nat) := by decide +kernel
theorem mem3 {x y z : Nat} (h1 : x < y) (h2 : y < z) (h3 : z < 15) : memN (m3 x y z) 0 = (x : Int) ∧ memN (m3 x y z) 1 = (y : Int) ∧ memN (m3 x y z) 2 = (z : Int) := mem_m3 ⟨x, by omega⟩ ⟨y, by omega⟩ ⟨z, h3⟩ h1 h2
theorem k_bc {d : Nat} {hp : amH} {R : xQ} {x : Int32} {n : Nat} (hx : x.toInt = (n : Int)) (hR : ∀ z : Int32, z.toInt = bcN n → R (.inl (some (.int z))) hp) : xK d 343 [.int x] hp R := by
  refine ⟨am_m343, rfl, 42, .inl (some (.int (bcF x))), hp, m_bits 0 d, hR _ ?_⟩
  have : x = Int32.ofNat n := Int32.toInt_inj.mp (by
    have := aMax x
    rw [hx, Int32.toInt_ofNat_of_lt (by omega)])
  unfold bcN
  rw [← this]
theorem low_all : (List.range 32767).all (fun r => Nat.ble 1 (lowN (r + 1))) = true := by decide +kernel
theorem low_pos {r : Nat} (h0 : 0 < r) (hr : r < 32768) : 0 < lowN r := by
  have := List.all_eq_true.mp low_all (r - 1) (List.mem_range.mpr (by omega))
  have := Nat.le_of_ble_eq_true this
  rw [show r - 1 + 1 = r by omega] at this
  exact this
theorem l70 {d : Nat} {hp : amH} {R : xQ} {a b : Int32} {m i : Nat} (hH : bHk 84 bTT hp) (hm : m < 32768) (hb : b.toInt = (i : Int)) (hR : ∀ r : Int32, r.toInt = memN m i → R (.inl (some (.int r))) hp) :
    ∀ (jj q : Nat) (s k : Int32), s.toInt = ((clrN q m : Nat) : Int) → k.toInt = (q : Int) → q + jj = i → xV (d + 1) am_m70 4 [some (.int a), some (.int b), some (.int s), some (.int k)] [] hp R := by
  intro jj
  induction jj using Nat.strongRecOn with
  | ind jj ih =>
    intro q s k hs hk hjj
    have bb := aMax b
    have hc := clr_lt hm q
    refine xild 5 ⟨u70, _, rfl⟩ rfl rfl ?_
    refine xild 6 ⟨u70, _, rfl⟩ rfl rfl ?_
    refine xcmp_ge 9 ⟨u70, _, rfl⟩ rfl (fun c6 => ?_) (fun c6 => ?_)
    · have eq : q = i := by omega
      subst eq
      refine xild 22 ⟨u70, _, rfl⟩ rfl rfl ?_
      refine xif_ne 25 ⟨u70, _, rfl⟩ rfl (fun c22 => ?_) (fun c22 => ?_)
      · have lo := i_low hs hc (by omega)
        have lo1 : 0 < lowN (clrN q m) := low_pos (by omega) hc
        refine xild 30 ⟨u70, _, rfl⟩ rfl rfl ?_
        refine xild 31 ⟨u70, _, rfl⟩ rfl rfl ?_
        refine xneg 32 ⟨u70, _, rfl⟩ rfl ?_
        refine xand 33 ⟨u70, _, rfl⟩ rfl ?_
        refine xcst 34 (1) ⟨u70, _, rfl⟩ rfl (by decide) (fun z33 h33 => ?_)
        refine xsub 35 _ ⟨u70, _, rfl⟩ rfl rfl (by omega) (by omega) (fun z34 h34 => ?_)
        refine xcallS 38 [.int _] [] hH ⟨u70, _, rfl⟩ rfl rfl rfl rfl rfl (k_bc (n := lowN (clrN q m) - 1) (by omega) (fun z35 h35 => ⟨_, rfl, ?_⟩))
        exact xret ⟨u70, _, rfl⟩ rfl (hR _ (by unfold memN; rw [if_neg (by omega)]; exact h35))
      · refine xcst 26 (-1) ⟨u70, _, rfl⟩ rfl (by decide) (fun z25 h25 => ?_)
        refine xgoto ⟨u70, _, rfl⟩ ?_
        exact xret ⟨u70, _, rfl⟩ rfl (hR _ (by unfold memN; rw [if_pos (by omega)]; exact h25))
    · refine xild 10 ⟨u70, _, rfl⟩ rfl rfl ?_
      refine xild 11 ⟨u70, _, rfl⟩ rfl rfl ?_
      refine xcst 12 (1) ⟨u70, _, rfl⟩ rfl (by decide) (fun z11 h11 => ?_)
      refine xsub 13 _ ⟨u70, _, rfl⟩ rfl rfl (by omega) (by omega) (fun z12 h12 => ?_)
      refine xand 14 ⟨u70, _, rfl⟩ rfl ?_
      refine xist 15 ⟨u70, _, rfl⟩ rfl rfl ?_
      refine xinc 18 (1) ⟨u70, _, rfl⟩ rfl rfl rfl (by decide) (by omega) (by omega) (fun z15 h15 => ?_)
      refine xgoto ⟨u70, _, rfl⟩ ?_
      exact ih (jj - 1) (by omega) (q + 1) _ _ (i_clr (o := 0) hs hc (by omega)) (by omega) (by omega)
theorem k_mem {d : Nat} {hp : amH} {R : xQ} {a b : Int32} {m i : Nat} (hH : bHk 84 bTT hp) (ha : a.toInt = (m : Int)) (hm : m < 32768) (hb : b.toInt = (i : Int)) (hR : ∀ r : Int32, r.toInt = memN m i → R (.inl (some (.int r))) hp) : xK (d + 1) 70 [.int a, .int b] hp R := by
  refine xin (M := am_m70) rfl rfl rfl ?_
  refine xild 1 ⟨u70, _, rfl⟩ rfl rfl ?_
  refine xist 2 ⟨u70, _, rfl⟩ rfl rfl ?_
  refine xcst 3 (0) ⟨u70, _, rfl⟩ rfl (by decide) (fun z2 h2 => ?_)
  refine xist 4 ⟨u70, _, rfl⟩ rfl rfl ?_
  exact l70 hH hm hb hR i 0 _ _ ha (by omega) (by omega)
/-- a set turned -/
def rotN (V k m : Nat) : Nat := ((m <<< k) ||| (m >>> (V - k))) &&& (2 ^ V - 1)
theorem rot_or (V k m n : Nat) : rotN V k (m ||| n) = rotN V k m ||| rotN V k n := by
  unfold rotN
  rw [Nat.shiftLeft_or_distrib, Nat.shiftRight_or_distrib]
  apply Nat.eq_of_testBit_eq
  intro i
  simp only [Nat.testBit_and, Nat.testBit_or]
  cases (m <<< k).testBit i <;> cases (n <<< k).testBit i <;> cases (m >>> (V - k)).testBit i <;> cases (n >>> (V - k)).testBit i <;> cases (2 ^ V - 1).testBit i <;> rfl
theorem rot_all : ∀ V k x : Fin 16, 0 < (V : Nat) → k < V → x < V → rotN V k (2 ^ (x : Nat)) = 2 ^ (((x : Nat) + k) % V) := by decide +kernel
theorem rot_m3 {V k x y z : Nat} (hV : V ≤ 15) (hk : k < V) (hx : x < V) (hy : y < V) (hz : z < V) : rotN V k (m3 x y z) = m3 ((x + k) % V) ((y + k) % V) ((z + k) % V) := by
  have f : ∀ x, x < V → rotN V k (2 ^ x) = 2 ^ ((x + k) % V) := fun x hx => rot_all ⟨V, by omega⟩ ⟨k, by omega⟩ ⟨x, by omega⟩ (by show 0 < V; omega) hk hx
  unfold m3
  rw [rot_or, rot_or, f x hx, f y hy, f z hz]
theorem i_shlB {x c : Int32} {m k : Nat} (hx : x.toInt = (m : Int)) (hm : m < 32768) (hc : c.toInt = (k : Int)) (hk : k < 15) : (x <<< (c &&& 31)).toInt = ((m <<< k : Nat) : Int) ∧ m <<< k < 1073741824 := by
  have e1 := bN_t hx
  have e2 : (c &&& 31).toBitVec.smod 32 = BitVec.ofNat 32 k := by
    have : c = Int32.ofNat k := Int32.toInt_inj.mp (by rw [hc, Int32.toInt_ofNat_of_lt (by omega)])
    rw [this]
    exact (sh_all ⟨k, hk⟩).2.2
  have h2 : m <<< k < 1073741824 := by
    rw [Nat.shiftLeft_eq]
    have : 2 ^ k ≤ 2 ^ 14 := Nat.pow_le_pow_right (by decide) (by omega)
    have : m * 2 ^ k ≤ 32767 * 2 ^ 14 := Nat.mul_le_mul (by omega) this
    omega
  have e3 : bN (x <<< (c &&& 31)) = m <<< k := by
    unfold bN at *
    rw [Int32.toBitVec_shiftLeft, e2, BitVec.shiftLeft_eq', BitVec.toNat_shiftLeft, e1, BitVec.toNat_ofNat, Nat.mod_eq_of_lt (a := k) (by omega), Nat.mod_eq_of_lt (by omega)]
  exact ⟨by rw [t_bN2 (by omega), e3], h2⟩
theorem i_orG {x y : Int32} {a b : Nat} (hx : x.toInt = (a : Int)) (hy : y.toInt = (b : Int)) (ha : a < 1073741824) (hb : b < 1073741824) : (x ||| y).toInt = ((a ||| b : Nat) : Int) ∧ a ||| b < 1073741824 := by
  have e1 := bN_t hx
  have e2 := bN_t hy
  have l : a ||| b < 2 ^ 30 := Nat.or_lt_two_pow (by omega) (by omega)
  have e3 : bN (x ||| y) = a ||| b := by
    unfold bN at *
    rw [Int32.toBitVec_or, BitVec.toNat_or, e1, e2]
  exact ⟨by rw [t_bN2 (by omega), e3], by omega⟩
theorem i_andG {x y : Int32} {a b : Nat} (hx : x.toInt = (a : Int)) (hy : y.toInt = (b : Int)) (ha : a < 1073741824) : (x &&& y).toInt = ((a &&& b : Nat) : Int) ∧ a &&& b < 1073741824 := by
  have e1 := bN_t hx
  have e2 := bN_t hy
  have l : a &&& b ≤ a := Nat.and_le_left
  have e3 : bN (x &&& y) = a &&& b := by
    unfold bN at *
    rw [Int32.toBitVec_and, BitVec.toNat_and, e1, e2]
  exact ⟨by rw [t_bN2 (by omega), e3], by omega⟩
theorem i_shlV {o c : Int32} {V : Nat} (ho : o.toInt = 1) (hc : c.toInt = (V : Int)) (hV : V < 16) : (o <<< (c &&& 31)).toInt = ((2 ^ V : Nat) : Int) ∧ 1 ≤ 2 ^ V ∧ 2 ^ V ≤ 32768 := by
  have e1 := bN_t (n := 1) ho
  have e2 : (c &&& 31).toBitVec.smod 32 = BitVec.ofNat 32 V := by
    have : c = Int32.ofNat V := Int32.toInt_inj.mp (by rw [hc, Int32.toInt_ofNat_of_lt (by omega)])
    rw [this]
    exact sh_all2 ⟨V, hV⟩
  have h1 : 2 ^ V ≤ 2 ^ 15 := Nat.pow_le_pow_right (by decide) (by omega)
  have h0 : 0 < 2 ^ V := Nat.pow_pos (by decide)
  have e3 : bN (o <<< (c &&& 31)) = 2 ^ V := by
    unfold bN at *
    rw [Int32.toBitVec_shiftLeft, e2, BitVec.shiftLeft_eq', BitVec.toNat_shiftLeft, e1, BitVec.toNat_ofNat, Nat.mod_eq_of_lt (a := V) (by omega), Nat.shiftLeft_eq, Nat.one_mul, Nat.mod_eq_of_lt (by omega)]
  exact ⟨by rw [t_bN2 (by omega), e3], h0, h1⟩
theorem k_rot {d : Nat} {hp : amH} {R : xQ} {a b c : Int32} {m k V : Nat} (ha : a.toInt = (m : Int)) (hm : m < 32768) (hb : b.toInt = (k : Int)) (hc : c.toInt = (V : Int)) (hk : k < V) (hV : V ≤ 15) (hR : ∀ r : Int32, r.toInt = ((rotN V k m : Nat) : Int) → R (.inl (some (.int r))) hp) : xK d 71 [.int a, .int b, .int c] hp R := by
  refine xin (M := am_m71) rfl rfl rfl ?_
  refine xild 1 ⟨u71, _, rfl⟩ rfl rfl ?_
  refine xild 2 ⟨u71, _, rfl⟩ rfl rfl ?_
  refine xshl 3 ⟨u71, _, rfl⟩ rfl ?_
  refine xild 4 ⟨u71, _, rfl⟩ rfl rfl ?_
  refine xild 5 ⟨u71, _, rfl⟩ rfl rfl ?_
  refine xild 6 ⟨u71, _, rfl⟩ rfl rfl ?_
  refine xsub 7 _ ⟨u71, _, rfl⟩ rfl rfl (by omega) (by omega) (fun z6 h6 => ?_)
  refine xshr 8 ⟨u71, _, rfl⟩ rfl ?_
  refine xor_ 9 ⟨u71, _, rfl⟩ rfl ?_
  refine xcst 10 (1) ⟨u71, _, rfl⟩ rfl (by decide) (fun z9 h9 => ?_)
  refine xild 11 ⟨u71, _, rfl⟩ rfl rfl ?_
  refine xshl 12 ⟨u71, _, rfl⟩ rfl ?_
  refine xcst 13 (1) ⟨u71, _, rfl⟩ rfl (by decide) (fun z12 h12 => ?_)
  have s5 := i_shlV h9 hc (by omega)
  refine xsub 14 _ ⟨u71, _, rfl⟩ rfl rfl (by omega) (by omega) (fun z13 h13 => ?_)
  refine xand 15 ⟨u71, _, rfl⟩ rfl ?_
  have s1 := i_shlB ha hm hb (by omega)
  have s2 := i_shrG ha (n := V - k) (by omega : z6.toInt = ((V - k : Nat) : Int)) (by omega)
  have s3 : m >>> (V - k) < 1073741824 := Nat.lt_of_le_of_lt (Nat.shiftRight_le _ _) (by omega)
  have s4 := i_orG s1.1 s2 (by omega) (by omega)
  have s5 := i_shlV h9 hc (by omega)
  have s6 := i_andG s4.1 (show z13.toInt = ((2 ^ V - 1 : Nat) : Int) by omega) s4.2
  exact xret ⟨u71, _, rfl⟩ rfl (hR _ s6.1)
end
/-! ##### 19.m.006.26e ##### -/
section
/-! ===== the class's boards ===== -/
theorem u1 : bUp 0 am_m1.1 = true := by decide +kernel
theorem u3 : bUp 0 am_m3.1 = true := by decide +kernel
theorem u4 : bUp 0 am_m4.1 = true := by decide +kernel
theorem u7 : bUp 0 am_m7.1 = true := by decide +kernel
theorem u8 : bUp 0 am_m8.1 = true := by decide +kernel
theorem u13 : bUp 0 am_m13.1 = true := by decide +kernel
theorem u14 : bUp 0 am_m14.1 = true := by decide +kernel
theorem u15 : bUp 0 am_m15.1 = true := by decide +kernel
theorem u16 : bUp 0 am_m16.1 = true := by decide +kernel
theorem u17 : bUp 0 am_m17.1 = true := by decide +kernel
theorem u20 : bUp 0 am_m20.1 = true := by decide +kernel
theorem u19 : bUp 0 am_m19.1 = true := by decide +kernel
theorem u18 : bUp 0 am_m18.1 = true := by decide +kernel
theorem u21 : bUp 0 am_m21.1 = true := by decide +kernel
abbrev bo (o : Nat) : Prop := o = 3 ∨ o = 8
theorem bo_T {o : Nat} (ho : bo o) : bTT o = some (0, 6, [.inl (2147483648, 2147483663), .inl (2147483648, 2147483683), .inr (.inr [o + 1]), .inr (.inr [o + 2]), .inr (.inr [o + 3]), .inr (.inr [o + 4])]) := by rcases ho with rfl | rfl <;> rfl
theorem bo_T1 {o : Nat} (ho : bo o) : bTT (o + 1) = some (32, 225, [.inl (0, 4294967295)]) := by rcases ho with rfl | rfl <;> rfl
theorem bo_T2 {o : Nat} (ho : bo o) : bTT (o + 2) = some (32, 225, [.inl (0, 4294967295)]) := by rcases ho with rfl | rfl <;> rfl
theorem bo_T3 {o : Nat} (ho : bo o) : bTT (o + 3) = some (32, 15, [.inl (0, 4294967295)]) := by rcases ho with rfl | rfl <;> rfl
theorem bo_T4 {o : Nat} (ho : bo o) : bTT (o + 4) = some (32, 35, [.inl (0, 4294967295)]) := by rcases ho with rfl | rfl <;> rfl
theorem bo_lt {o : Nat} (ho : bo o) : o < 84 := by omega
theorem bo_lt1 {o : Nat} (ho : bo o) : o + 1 < 84 := by omega
theorem bo_lt2 {o : Nat} (ho : bo o) : o + 2 < 84 := by omega
theorem bo_lt3 {o : Nat} (ho : bo o) : o + 3 < 84 := by omega
theorem bo_lt4 {o : Nat} (ho : bo o) : o + 4 < 84 := by omega
/-- a set as a mask -/
def bitsOf (P : Nat → Bool) : Nat → Nat
  | 0 => 0
  | n + 1 => if P n = true then bitsOf P n ||| 2 ^ n else bitsOf P n
theorem bits_test (P : Nat → Bool) (i : Nat) : ∀ n, (bitsOf P n).testBit i = (decide (i < n) && P i)
  | 0 => by simp [bitsOf]
  | n + 1 => by
    have ih := bits_test P i n
    unfold bitsOf
    by_cases e : i = n
    · subst e
      cases h : P i
      · simp [h, ih]
      · simp [h, Nat.testBit_or, ih, Nat.testBit_two_pow_self]
    · have e2 : (decide (i < n + 1)) = decide (i < n) := by
        rw [decide_eq_decide]; omega
      split
      · rw [Nat.testBit_or, ih, Nat.testBit_two_pow_of_ne (fun z => e z.symm), e2, Bool.or_false]
      · rw [ih, e2]
theorem bits_lt (P : Nat → Bool) : ∀ n, bitsOf P n < 2 ^ n
  | 0 => by simp [bitsOf]
  | n + 1 => by
    have ih := bits_lt P n
    unfold bitsOf
    have h2 : 2 ^ n < 2 ^ (n + 1) := Nat.pow_lt_pow_right (by decide) (Nat.lt_succ_self n)
    split
    · exact Nat.or_lt_two_pow (by omega) h2
    · omega
/-- the points with which p isn't covered -/
def opN (V : Nat) (T : sT) (p : Nat) : Nat := bitsOf (fun q => decide (p < V ∧ q < V ∧ ¬ p = q ∧ T p q = -1)) 15
theorem op_test {V : Nat} {T : sT} {p i : Nat} (hV : V ≤ 15) : (opN V T p).testBit i = decide (p < V ∧ i < V ∧ ¬ p = i ∧ T p i = -1) := by
  unfold opN
  rw [bits_test]
  by_cases h : p < V ∧ i < V ∧ ¬ p = i ∧ T p i = -1
  · rw [decide_eq_true h, decide_eq_true (by omega : i < 15)]; rfl
  · rw [decide_eq_false h, Bool.and_false]
theorem op_lt (V : Nat) (T : sT) (p : Nat) : opN V T p < 32768 := bits_lt _ 15
/-- without some -/
def ndif (m n : Nat) : Nat := m ^^^ (m &&& n)
theorem nd_test (m n i : Nat) : (ndif m n).testBit i = (m.testBit i && !n.testBit i) := by
  unfold ndif
  rw [Nat.testBit_xor, Nat.testBit_and]
  cases m.testBit i <;> cases n.testBit i <;> rfl
theorem nd_lt {m n : Nat} (h : m < 32768) : ndif m n < 32768 := Nat.xor_lt_two_pow (n := 15) h (Nat.lt_of_le_of_lt Nat.and_le_left h)
theorem i_nd {x y z : Int32} {m n : Nat} (hx : x.toInt = (m : Int)) (hy : y.toInt = (n : Int)) (hm : m < 32768) (hn : n < 2147483648) (hz : z.toInt = -1) : (x &&& (y ^^^ z)).toInt = ((ndif m n : Nat) : Int) := by
  have e : z = -1 := Int32.toInt_inj.mp hz
  subst e
  have e1 := bN_t hx
  have e2 := bN_t hy
  have l := nd_lt (n := n) hm
  have e3 : bN (x &&& (y ^^^ -1)) = ndif m n := by
    apply Nat.eq_of_testBit_eq
    intro i
    rw [nd_test]
    unfold bN at *
    rw [Int32.toBitVec_and, Int32.toBitVec_xor, BitVec.toNat_and, BitVec.toNat_xor, e1, e2, Nat.testBit_and, Nat.testBit_xor]
    rcases Nat.lt_or_ge i 32 with g | g
    · have : (BitVec.toNat (Int32.toBitVec (-1))).testBit i = true := by
        have : BitVec.toNat (Int32.toBitVec (-1)) = 2 ^ 32 - 1 := by decide
        rw [this, Nat.testBit_two_pow_sub_one]
        exact decide_eq_true g
      rw [this, Bool.xor_true]
    · have : m.testBit i = false := Nat.testBit_lt_two_pow (Nat.lt_of_lt_of_le hm (Nat.le_trans (by decide : 32768 ≤ 2 ^ 32) (Nat.pow_le_pow_right (by decide) g)))
      rw [this, Bool.false_and, Bool.false_and]
  exact by rw [t_bN (by omega), e3]
/-- a board that is a system -/
def bdOk (hp : amH) (o V : Nat) (T : sT) : Prop := rN hp o 0 = (V : Int) ∧ sOk V T ∧ (∀ u v, u < 15 → v < 15 → rN hp (o + 1) (15 * u + v) = T u v) ∧ (∀ u v, ¬ (u < 15 ∧ v < 15) → T u v = -1) ∧ ∀ p, p < 15 → rN hp (o + 3) p = ((opN V T p : Nat) : Int)
/-- which cells are written -/
def bFx (W : List Nat) (hp hp1 : amH) : Prop := ∀ c k, ¬ c ∈ W → bFld hp1 c k = bFld hp c k
theorem bFx.refl {W : List Nat} {hp : amH} : bFx W hp hp := fun _ _ _ => rfl
theorem bFx.trans {W : List Nat} {a b c : amH} (h1 : bFx W a b) (h2 : bFx W b c) : bFx W a c := fun i k e => (h2 i k e).trans (h1 i k e)
theorem bFx.mono {W W1 : List Nat} {a b : amH} (h : bFx W a b) (hW : ∀ c, c ∈ W → c ∈ W1) : bFx W1 a b := fun i k e => h i k (fun z => e (hW i z))
theorem bFx_U {W : List Nat} {hp hp1 : amH} {c i : Nat} {m : Int} (U : rU hp hp1 c i m) (h : c ∈ W) : bFx W hp hp1 := fun c1 k e => U.2 c1 k (fun z => e (by rw [z.1]; exact h))
theorem bFx_n {W : List Nat} {hp hp1 : amH} (F : bFx W hp hp1) {c i : Nat} (h : ¬ c ∈ W) : rN hp1 c i = rN hp c i := rN_eq (F c i h)
theorem bdOk_fr {hp hp1 : amH} {o V : Nat} {T : sT} (h : bdOk hp o V T) (h0 : rN hp1 o 0 = rN hp o 0) (h1 : ∀ i, rN hp1 (o + 1) i = rN hp (o + 1) i) (h3 : ∀ i, rN hp1 (o + 3) i = rN hp (o + 3) i) : bdOk hp1 o V T :=
  ⟨by rw [h0]; exact h.1, h.2.1, fun u v hu hv => by rw [h1]; exact h.2.2.1 u v hu hv, h.2.2.2.1, fun p hp => by rw [h3]; exact h.2.2.2.2 p hp⟩
theorem b_pts {hp : amH} (hH : bHk 84 bTT hp) {o : Nat} (ho : bo o) : 0 ≤ rN hp o 0 ∧ rN hp o 0 ≤ 15 ∧ 0 ≤ rN hp o 1 ∧ rN hp o 1 ≤ 35 := by
  have h1 := rb_c hH (c := o) (f := 0) (bo_lt ho) (bo_T ho) rfl (by decide)
  have h2 := rb_c hH (c := o) (f := 1) (bo_lt ho) (bo_T ho) rfl (by decide)
  omega
theorem k_isp {d : Nat} {hp : amH} {R : xQ} {o : Nat} {a : Int32} (ho : bo o) (hH : bHk 84 bTT hp) (hR : ∀ z : Int32, ((z.toInt = 1 ∧ 0 ≤ a.toInt ∧ a.toInt < rN hp o 0) ∨ (z.toInt = 0 ∧ (a.toInt < 0 ∨ rN hp o 0 ≤ a.toInt))) → R (.inl (some (.int z))) hp) : xK d 3 [.ref o, .int a] hp R := by
  refine xin (M := am_m3) rfl rfl (by unfold xAv; simp [amOk, bo_lt ho, Value.category]) ?_
  refine xild 1 ⟨u3, _, rfl⟩ rfl rfl ?_
  refine xif_lt 4 ⟨u3, _, rfl⟩ rfl (fun c1 => ?_) (fun c1 => ?_)
  · refine xcst 17 (0) ⟨u3, _, rfl⟩ rfl (by decide) (fun z16 h16 => ?_)
    exact xretB ⟨u3, _, rfl⟩ rfl (by omega) (hR _ (by omega))
  · refine xild 5 ⟨u3, _, rfl⟩ rfl rfl ?_
    refine xald 6 ⟨u3, _, rfl⟩ rfl rfl ?_
    refine xgetC 9 hH ⟨u3, _, rfl⟩ rfl (bo_lt ho) (by decide) (bo_T ho) rfl (by decide) (fun z6 h6 => ?_)
    refine xcmp_ge 12 ⟨u3, _, rfl⟩ rfl (fun c9 => ?_) (fun c9 => ?_)
    · refine xcst 17 (0) ⟨u3, _, rfl⟩ rfl (by decide) (fun z16 h16 => ?_)
      exact xretB ⟨u3, _, rfl⟩ rfl (by omega) (hR _ (by omega))
    · refine xcst 13 (1) ⟨u3, _, rfl⟩ rfl (by decide) (fun z12 h12 => ?_)
      refine xgoto ⟨u3, _, rfl⟩ ?_
      exact xretB ⟨u3, _, rfl⟩ rfl (by omega) (hR _ (by omega))
theorem k_all {d : Nat} {hp : amH} {R : xQ} {o V : Nat} (ho : bo o) (hH : bHk 84 bTT hp) (hV : rN hp o 0 = (V : Int)) (hR : ∀ z : Int32, z.toInt = ((2 ^ V - 1 : Nat) : Int) → R (.inl (some (.int z))) hp) : xK d 4 [.ref o] hp R := by
  have b := b_pts hH ho
  refine xin (M := am_m4) rfl rfl (by unfold xAv; simp [amOk, bo_lt ho, Value.category]) ?_
  refine xcst 1 (1) ⟨u4, _, rfl⟩ rfl (by decide) (fun z0 h0 => ?_)
  refine xald 2 ⟨u4, _, rfl⟩ rfl rfl ?_
  refine xgetC 5 hH ⟨u4, _, rfl⟩ rfl (bo_lt ho) (by decide) (bo_T ho) rfl (by decide) (fun z2 h2 => ?_)
  refine xshl 6 ⟨u4, _, rfl⟩ rfl ?_
  refine xcst 7 (1) ⟨u4, _, rfl⟩ rfl (by decide) (fun z6 h6 => ?_)
  have s := i_shlV h0 (h2.trans hV) (by omega)
  refine xsub 8 _ ⟨u4, _, rfl⟩ rfl rfl (by omega) (by omega) (fun z7 h7 => ?_)
  exact xret ⟨u4, _, rfl⟩ rfl (hR _ (by omega))
theorem k_thd {d : Nat} {hp : amH} {R : xQ} {o V : Nat} {T : sT} {a b : Int32} (ho : bo o) (hH : bHk 84 bTT hp) (hB : bdOk hp o V T) (hR : ∀ z : Int32, z.toInt = (if 0 ≤ a.toInt ∧ 0 ≤ b.toInt then T a.toInt.toNat b.toInt.toNat else -1) → R (.inl (some (.int z))) hp) : xK d 7 [.ref o, .int a, .int b] hp R := by
  have q := b_pts hH ho
  obtain ⟨h1, h2, h3, h4, -⟩ := hB
  have hno : a.toInt < 0 ∨ (V : Int) ≤ a.toInt ∨ b.toInt < 0 ∨ (V : Int) ≤ b.toInt → (if 0 ≤ a.toInt ∧ 0 ≤ b.toInt then T a.toInt.toNat b.toInt.toNat else -1) = -1 := by
    intro g
    split
    · rcases h2.2.2 a.toInt.toNat b.toInt.toNat with k | ⟨c, k, k1, k2, -⟩
      · exact k
      · omega
    · rfl
  refine xin (M := am_m7) rfl rfl (by unfold xAv; simp [amOk, bo_lt ho, Value.category]) ?_
  refine xild 1 ⟨u7, _, rfl⟩ rfl rfl ?_
  refine xif_lt 4 ⟨u7, _, rfl⟩ rfl (fun c1 => ?_) (fun c1 => ?_)
  · refine xcst 39 (-1) ⟨u7, _, rfl⟩ rfl (by decide) (fun z38 h38 => ?_)
    exact xret ⟨u7, _, rfl⟩ rfl (hR _ (by rw [hno (by omega)]; exact h38))
  · refine xild 5 ⟨u7, _, rfl⟩ rfl rfl ?_
    refine xald 6 ⟨u7, _, rfl⟩ rfl rfl ?_
    refine xgetC 9 hH ⟨u7, _, rfl⟩ rfl (bo_lt ho) (by decide) (bo_T ho) rfl (by decide) (fun z6 h6 => ?_)
    refine xcmp_ge 12 ⟨u7, _, rfl⟩ rfl (fun c9 => ?_) (fun c9 => ?_)
    · refine xcst 39 (-1) ⟨u7, _, rfl⟩ rfl (by decide) (fun z38 h38 => ?_)
      exact xret ⟨u7, _, rfl⟩ rfl (hR _ (by rw [hno (by omega)]; exact h38))
    · refine xild 13 ⟨u7, _, rfl⟩ rfl rfl ?_
      refine xif_lt 16 ⟨u7, _, rfl⟩ rfl (fun c13 => ?_) (fun c13 => ?_)
      · refine xcst 39 (-1) ⟨u7, _, rfl⟩ rfl (by decide) (fun z38 h38 => ?_)
        exact xret ⟨u7, _, rfl⟩ rfl (hR _ (by rw [hno (by omega)]; exact h38))
      · refine xild 17 ⟨u7, _, rfl⟩ rfl rfl ?_
        refine xald 18 ⟨u7, _, rfl⟩ rfl rfl ?_
        refine xgetC 21 hH ⟨u7, _, rfl⟩ rfl (bo_lt ho) (by decide) (bo_T ho) rfl (by decide) (fun z18 h18 => ?_)
        refine xcmp_ge 24 ⟨u7, _, rfl⟩ rfl (fun c21 => ?_) (fun c21 => ?_)
        · refine xcst 39 (-1) ⟨u7, _, rfl⟩ rfl (by decide) (fun z38 h38 => ?_)
          exact xret ⟨u7, _, rfl⟩ rfl (hR _ (by rw [hno (by omega)]; exact h38))
        · refine xald 25 ⟨u7, _, rfl⟩ rfl rfl ?_
          refine xgetD 28 (o + 1) hH ⟨u7, _, rfl⟩ rfl (bo_lt ho) (by decide) (bo_T ho) rfl (by decide) ?_
          refine xild 29 ⟨u7, _, rfl⟩ rfl rfl ?_
          refine xbip 31 (15) ⟨u7, _, rfl⟩ rfl (by decide) (fun z29 h29 => ?_)
          refine xmul 32 (Int32.toInt a * 15) ⟨u7, _, rfl⟩ rfl (by rw [h29]) (by omega) (by omega) (fun z31 h31 => ?_)
          refine xild 33 ⟨u7, _, rfl⟩ rfl rfl ?_
          refine xadd 34 _ ⟨u7, _, rfl⟩ rfl rfl (by omega) (by omega) (fun z33 h33 => ?_)
          refine xiald 35 (z33).toInt.toNat hH ⟨u7, _, rfl⟩ rfl (bo_lt1 ho) (bo_T1 ho) (by omega) (by omega) (fun z34 h34 => ?_)
          refine xgoto ⟨u7, _, rfl⟩ ?_
          exact xret ⟨u7, _, rfl⟩ rfl (hR _ (by rw [if_pos (by omega), ← h3 _ _ (by omega) (by omega), h34]; congr 1; omega))
theorem k_opn {d : Nat} {hp : amH} {R : xQ} {o V x : Nat} {T : sT} {a : Int32} (ho : bo o) (hH : bHk 84 bTT hp) (hB : bdOk hp o V T) (ha : a.toInt = (x : Int)) (hR : ∀ z : Int32, z.toInt = ((opN V T x : Nat) : Int) → R (.inl (some (.int z))) hp) : xK (d + 1) 8 [.ref o, .int a] hp R := by
  have q := b_pts hH ho
  obtain ⟨h1, h2, h3, h4, h5⟩ := hB
  have hno : ¬ x < V → opN V T x = 0 := by
    intro g
    apply Nat.eq_of_testBit_eq
    intro i
    rw [op_test h2.2.1, decide_eq_false (by omega), Nat.zero_testBit]
  refine xin (M := am_m8) rfl rfl (by unfold xAv; simp [amOk, bo_lt ho, Value.category]) ?_
  refine xald 1 ⟨u8, _, rfl⟩ rfl rfl ?_
  refine xild 2 ⟨u8, _, rfl⟩ rfl rfl ?_
  refine xcallC 5 (o := o) [.int _] [] hH ⟨u8, _, rfl⟩ rfl rfl (bo_lt ho) (bo_T ho) (by decide) rfl ⟨rfl, rfl, rfl, rfl⟩ rfl (k_isp ho hH (fun z2 h2 => ⟨_, rfl, ?_⟩))
  refine xif_eq 8 ⟨u8, _, rfl⟩ rfl (fun c5 => ?_) (fun c5 => ?_)
  · refine xcst 18 (0) ⟨u8, _, rfl⟩ rfl (by decide) (fun z17 h17 => ?_)
    exact xret ⟨u8, _, rfl⟩ rfl (hR _ (by rw [hno (by omega)]; exact h17))
  · refine xald 9 ⟨u8, _, rfl⟩ rfl rfl ?_
    refine xgetD 12 (o + 3) hH ⟨u8, _, rfl⟩ rfl (bo_lt ho) (by decide) (bo_T ho) rfl (by decide) ?_
    refine xild 13 ⟨u8, _, rfl⟩ rfl rfl ?_
    refine xiald 14 (a).toInt.toNat hH ⟨u8, _, rfl⟩ rfl (bo_lt3 ho) (bo_T3 ho) (by omega) (by omega) (fun z13 h13 => ?_)
    refine xgoto ⟨u8, _, rfl⟩ ?_
    exact xret ⟨u8, _, rfl⟩ rfl (hR _ (by rw [← h5 x (by omega), h13]; congr 1; omega))
/-- a pair gets its third point -/
theorem k_join {d : Nat} {hp : amH} {R : xQ} {o V x y : Nat} {a b c : Int32} (ho : bo o) (hH : bHk 84 bTT hp) (hV : rN hp o 0 = (V : Int)) (ha : a.toInt = (x : Int)) (hb : b.toInt = (y : Int)) (hx : x < V) (hy : y < V) (hxy : ¬ x = y) {m n : Nat} (hm : rN hp (o + 3) x = (m : Int)) (hn : rN hp (o + 3) y = (n : Int)) (hm2 : m < 32768) (hn2 : n < 32768)
    (hR : ∀ hp1, bHk 84 bTT hp1 → bFx [o + 1, o + 3] hp hp1 → (∀ u v, u < 15 → v < 15 → rN hp1 (o + 1) (15 * u + v) = if (u = x ∧ v = y) ∨ (u = y ∧ v = x) then c.toInt else rN hp (o + 1) (15 * u + v)) → rN hp1 (o + 3) x = ((ndif m (2 ^ y) : Nat) : Int) → rN hp1 (o + 3) y = ((ndif n (2 ^ x) : Nat) : Int) → (∀ p, ¬ p = x → ¬ p = y → rN hp1 (o + 3) p = rN hp (o + 3) p) → R (.inl none) hp1) : xK (d + 1) 16 [.ref o, .int a, .int b, .int c] hp R := by
  have q := b_pts hH ho
  have c1 := aMin c
  have c2 := aMax c
  refine xin (M := am_m16) rfl rfl (by unfold xAv; simp [amOk, bo_lt ho, Value.category]) ?_
  refine xald 1 ⟨u16, _, rfl⟩ rfl rfl ?_
  refine xild 2 ⟨u16, _, rfl⟩ rfl rfl ?_
  refine xcallC 5 (o := o) [.int _] [] hH ⟨u16, _, rfl⟩ rfl rfl (bo_lt ho) (bo_T ho) (by decide) rfl ⟨rfl, rfl, rfl, rfl⟩ rfl (k_isp ho hH (fun z2 h2 => ⟨_, rfl, ?_⟩))
  refine xif_eq 8 ⟨u16, _, rfl⟩ rfl (fun c5 => ?_) (fun c5 => ?_)
  · omega
  · refine xald 9 ⟨u16, _, rfl⟩ rfl rfl ?_
    refine xild 10 ⟨u16, _, rfl⟩ rfl rfl ?_
    refine xcallC 13 (o := o) [.int _] [] hH ⟨u16, _, rfl⟩ rfl rfl (bo_lt ho) (bo_T ho) (by decide) rfl ⟨rfl, rfl, rfl, rfl⟩ rfl (k_isp ho hH (fun z10 h10 => ⟨_, rfl, ?_⟩))
    refine xif_eq 16 ⟨u16, _, rfl⟩ rfl (fun c13 => ?_) (fun c13 => ?_)
    · omega
    · refine xald 17 ⟨u16, _, rfl⟩ rfl rfl ?_
      refine xgetD 20 (o + 1) hH ⟨u16, _, rfl⟩ rfl (bo_lt ho) (by decide) (bo_T ho) rfl (by decide) ?_
      refine xild 21 ⟨u16, _, rfl⟩ rfl rfl ?_
      refine xbip 23 (15) ⟨u16, _, rfl⟩ rfl (by decide) (fun z21 h21 => ?_)
      refine xmul 24 (Int32.toInt a * 15) ⟨u16, _, rfl⟩ rfl (by rw [h21]) (by omega) (by omega) (fun z23 h23 => ?_)
      refine xild 25 ⟨u16, _, rfl⟩ rfl rfl ?_
      refine xadd 26 _ ⟨u16, _, rfl⟩ rfl rfl (by omega) (by omega) (fun z25 h25 => ?_)
      refine xild 27 ⟨u16, _, rfl⟩ rfl rfl ?_
      refine xiast 28 (z25).toInt.toNat hH ⟨u16, _, rfl⟩ rfl (bo_lt1 ho) (bo_T1 ho) (by omega) (by omega) (by omega) (by omega) (fun hp27 hH27 U27 => ?_)
      have s27 := U27.1
      refine xald 29 ⟨u16, _, rfl⟩ rfl rfl ?_
      refine xgetD 32 (o + 1) hH27 ⟨u16, _, rfl⟩ rfl (bo_lt ho) (by decide) (bo_T ho) rfl (by decide) ?_
      refine xild 33 ⟨u16, _, rfl⟩ rfl rfl ?_
      refine xbip 35 (15) ⟨u16, _, rfl⟩ rfl (by decide) (fun z33 h33 => ?_)
      refine xmul 36 (Int32.toInt b * 15) ⟨u16, _, rfl⟩ rfl (by rw [h33]) (by omega) (by omega) (fun z35 h35 => ?_)
      refine xild 37 ⟨u16, _, rfl⟩ rfl rfl ?_
      refine xadd 38 _ ⟨u16, _, rfl⟩ rfl rfl (by omega) (by omega) (fun z37 h37 => ?_)
      refine xild 39 ⟨u16, _, rfl⟩ rfl rfl ?_
      refine xiast 40 (z37).toInt.toNat hH27 ⟨u16, _, rfl⟩ rfl (bo_lt1 ho) (bo_T1 ho) (by omega) (by omega) (by omega) (by omega) (fun hp39 hH39 U39 => ?_)
      have s39 := U39.1
      refine xald 41 ⟨u16, _, rfl⟩ rfl rfl ?_
      refine xgetD 44 (o + 3) hH39 ⟨u16, _, rfl⟩ rfl (bo_lt ho) (by decide) (bo_T ho) rfl (by decide) ?_
      refine xild 45 ⟨u16, _, rfl⟩ rfl rfl ?_
      refine xdup2 46 ⟨u16, _, rfl⟩ rfl rfl rfl ?_
      refine xiald 47 (a).toInt.toNat hH39 ⟨u16, _, rfl⟩ rfl (bo_lt3 ho) (bo_T3 ho) (by omega) (by omega) (fun z46 h46 => ?_)
      refine xcst 48 (1) ⟨u16, _, rfl⟩ rfl (by decide) (fun z47 h47 => ?_)
      refine xild 49 ⟨u16, _, rfl⟩ rfl rfl ?_
      refine xshl 50 ⟨u16, _, rfl⟩ rfl ?_
      refine xcst 51 (-1) ⟨u16, _, rfl⟩ rfl (by decide) (fun z50 h50 => ?_)
      refine xxor 52 ⟨u16, _, rfl⟩ rfl ?_
      refine xand 53 ⟨u16, _, rfl⟩ rfl ?_
      have h46m : z46.toInt = (m : Int) := by rw [h46, rU_ne U39 (by omega), rU_ne U27 (by omega), show a.toInt.toNat = x by omega]; exact hm
      have w1 := i_nd h46m (i_shl h47 hb (by omega)).1 hm2 (by have := (i_shl h47 hb (by omega)).2; omega) h50
      have w1b := nd_lt (n := 2 ^ y) hm2
      refine xiast 54 (a).toInt.toNat hH39 ⟨u16, _, rfl⟩ rfl (bo_lt3 ho) (bo_T3 ho) (by omega) (by omega) (by omega) (by omega) (fun hp53 hH53 U53 => ?_)
      have s53 := U53.1
      refine xald 55 ⟨u16, _, rfl⟩ rfl rfl ?_
      refine xgetD 58 (o + 3) hH53 ⟨u16, _, rfl⟩ rfl (bo_lt ho) (by decide) (bo_T ho) rfl (by decide) ?_
      refine xild 59 ⟨u16, _, rfl⟩ rfl rfl ?_
      refine xdup2 60 ⟨u16, _, rfl⟩ rfl rfl rfl ?_
      refine xiald 61 (b).toInt.toNat hH53 ⟨u16, _, rfl⟩ rfl (bo_lt3 ho) (bo_T3 ho) (by omega) (by omega) (fun z60 h60 => ?_)
      refine xcst 62 (1) ⟨u16, _, rfl⟩ rfl (by decide) (fun z61 h61 => ?_)
      refine xild 63 ⟨u16, _, rfl⟩ rfl rfl ?_
      refine xshl 64 ⟨u16, _, rfl⟩ rfl ?_
      refine xcst 65 (-1) ⟨u16, _, rfl⟩ rfl (by decide) (fun z64 h64 => ?_)
      refine xxor 66 ⟨u16, _, rfl⟩ rfl ?_
      refine xand 67 ⟨u16, _, rfl⟩ rfl ?_
      have h60n : z60.toInt = (n : Int) := by rw [h60, rU_ne U53 (by omega), rU_ne U39 (by omega), rU_ne U27 (by omega), show b.toInt.toNat = y by omega]; exact hn
      have w2 := i_nd h60n (i_shl h61 ha (by omega)).1 hn2 (by have := (i_shl h61 ha (by omega)).2; omega) h64
      have w2b := nd_lt (n := 2 ^ x) hn2
      refine xiast 68 (b).toInt.toNat hH53 ⟨u16, _, rfl⟩ rfl (bo_lt3 ho) (bo_T3 ho) (by omega) (by omega) (by omega) (by omega) (fun hp67 hH67 U67 => ?_)
      have s67 := U67.1
      exact xretV ⟨u16, _, rfl⟩ rfl (hR hp67 hH67 ((((bFx_U U27 (by simp)).trans (bFx_U U39 (by simp))).trans (bFx_U U53 (by simp))).trans (bFx_U U67 (by simp))) (fun u v hu hv => by
          rw [rU_ne U67 (by omega), rU_ne U53 (by omega)]
          by_cases e2 : u = y ∧ v = x
          · obtain ⟨rfl, rfl⟩ := e2
            rw [if_pos (by omega), show 15 * u + v = z37.toInt.toNat by omega]
            exact U39.1
          · rw [rU_ne U39 (by omega)]
            by_cases e1 : u = x ∧ v = y
            · obtain ⟨rfl, rfl⟩ := e1
              rw [if_pos (by omega), show 15 * u + v = z25.toInt.toNat by omega]
              exact U27.1
            · rw [if_neg (by omega), rU_ne U27 (by omega)]) (by rw [rU_ne U67 (by omega), show x = a.toInt.toNat by omega, U53.1, w1]) (by rw [show y = b.toInt.toNat by omega, U67.1, w2]) (fun p p1 p2 => by rw [rU_ne U67 (by omega), rU_ne U53 (by omega), rU_ne U39 (by omega), rU_ne U27 (by omega)]))
end
/-! ##### 19.m.007.26f ##### -/
section
/-! ===== the class's boards: triples put, taken ===== -/
theorem m3_test (x y z i : Nat) : (m3 x y z).testBit i = decide (i = x ∨ i = y ∨ i = z) := by
  unfold m3
  rw [Nat.testBit_or, Nat.testBit_or, Nat.testBit_two_pow, Nat.testBit_two_pow, Nat.testBit_two_pow]
  by_cases h1 : i = x
  · simp [h1]
  · by_cases h2 : i = y
    · simp [h2]
    · by_cases h3 : i = z
      · simp [h3]
      · have a1 : ¬ x = i := fun e => h1 e.symm
        have a2 : ¬ y = i := fun e => h2 e.symm
        have a3 : ¬ z = i := fun e => h3 e.symm
        simp [h1, h2, h3, a1, a2, a3]
theorem p2_test (x i : Nat) : (2 ^ x).testBit i = decide (i = x) := by
  rw [Nat.testBit_two_pow]
  by_cases h : x = i
  · simp [h]
  · have : ¬ i = x := fun e => h e.symm
    simp [h, this]
/-- the points of a triple that go with one of its points are those not covered with it -/
theorem tk_eq {V x p q : Nat} {T : sT} (hV : V ≤ 15) (hp : p < V) (hq : q < V) (hx : x < V) (hpq : ¬ p = q) (hxp : ¬ x = p) (hxq : ¬ x = q) {m : Nat} (hm : ∀ i, m.testBit i = decide (i = x ∨ i = p ∨ i = q)) : (opN V T x &&& m = ndif m (2 ^ x)) ↔ (T x p = -1 ∧ T x q = -1) := by
  constructor
  · intro h
    have g : ∀ i, (i = p ∨ i = q) → T x i = -1 := by
      intro i hi
      have e := congrArg (fun k => Nat.testBit k i) h
      simp only [Nat.testBit_and, nd_test, op_test hV, hm, p2_test] at e
      rw [decide_eq_true (show i = x ∨ i = p ∨ i = q by omega), decide_eq_false (show ¬ i = x by omega)] at e
      simp only [Bool.and_true, Bool.not_false, decide_eq_true_eq] at e
      exact e.2.2.2
    exact ⟨g p (Or.inl rfl), g q (Or.inr rfl)⟩
  · intro ⟨h1, h2⟩
    apply Nat.eq_of_testBit_eq
    intro i
    simp only [Nat.testBit_and, nd_test, op_test hV, hm, p2_test]
    by_cases e1 : i = x
    · subst e1
      simp
    · by_cases e2 : i = p
      · subst e2
        simp [e1, hx, hp, hxp, h1]
      · by_cases e3 : i = q
        · subst e3
          simp [e1, hx, hq, hxq, h2]
        · simp [e1, e2, e3]
theorem sy_free {V : Nat} {T : sT} (h : sOk V T) {p q : Nat} (e : T p q = -1) : T q p = -1 := by
  rcases h.2.2 q p with g | ⟨k, g1, g2, g3, g4, g5, g6, g7, g8, g9⟩
  · exact g
  · rw [e] at g8; omega
theorem k_tak {d : Nat} {hp : amH} {R : xQ} {o V x y z : Nat} {T : sT} {s : Int32} (ho : bo o) (hH : bHk 84 bTT hp) (hB : bdOk hp o V T) (hs : s.toInt = ((m3 x y z : Nat) : Int)) (q1 : x < y) (q2 : y < z) (q3 : z < V) (hR : ∀ r : Int32, ((r.toInt = 1 ∧ sFree T x y z) ∨ (r.toInt = 0 ∧ ¬ sFree T x y z)) → R (.inl (some (.int r))) hp) : xK (d + 2) 13 [.ref o, .int s] hp R := by
  have hV : V ≤ 15 := hB.2.1.2.1
  obtain ⟨M0, M1, M2⟩ := mem3 q1 q2 (by omega)
  have hm := m3_lt (x := x) (y := y) (z := z) (by omega) (by omega) (by omega)
  have tx := tk_eq (T := T) (x := x) (p := y) (q := z) hV (by omega) (by omega) (by omega) (by omega) (by omega) (by omega) (fun i => m3_test x y z i)
  have ty := tk_eq (T := T) (x := y) (p := x) (q := z) hV (by omega) (by omega) (by omega) (by omega) (by omega) (by omega) (m := m3 x y z) (fun i => by rw [m3_test, decide_eq_decide]; omega)
  have sy := fun {p q : Nat} (e : T p q = -1) => sy_free hB.2.1 e
  have key : sFree T x y z ↔ (opN V T x &&& m3 x y z = ndif (m3 x y z) (2 ^ x) ∧ opN V T y &&& m3 x y z = ndif (m3 x y z) (2 ^ y)) := by
    rw [tx, ty]
    exact ⟨fun g => ⟨⟨g.1, g.2.2⟩, sy g.1, g.2.1⟩, fun g => ⟨g.1.1, g.2.2, g.1.2⟩⟩
  refine xin (M := am_m13) rfl rfl (by unfold xAv; simp [amOk, bo_lt ho, Value.category]) ?_
  refine xild 1 ⟨u13, _, rfl⟩ rfl rfl ?_
  refine xcst 2 (0) ⟨u13, _, rfl⟩ rfl (by decide) (fun z1 h1 => ?_)
  refine xcallS 5 [.int _, .int _] [] hH ⟨u13, _, rfl⟩ rfl rfl rfl rfl rfl (k_mem hH hs hm (i := 0) (by omega) (fun z2 h2 => ⟨_, rfl, ?_⟩))
  refine xist 6 ⟨u13, _, rfl⟩ rfl rfl ?_
  refine xild 7 ⟨u13, _, rfl⟩ rfl rfl ?_
  refine xcst 8 (1) ⟨u13, _, rfl⟩ rfl (by decide) (fun z7 h7 => ?_)
  refine xcallS 11 [.int _, .int _] [] hH ⟨u13, _, rfl⟩ rfl rfl rfl rfl rfl (k_mem hH hs hm (i := 1) (by omega) (fun z8 h8 => ⟨_, rfl, ?_⟩))
  refine xist 12 ⟨u13, _, rfl⟩ rfl rfl ?_
  refine xald 13 ⟨u13, _, rfl⟩ rfl rfl ?_
  refine xild 14 ⟨u13, _, rfl⟩ rfl rfl ?_
  refine xcallC 17 (o := o) [.int _] [] hH ⟨u13, _, rfl⟩ rfl rfl (bo_lt ho) (bo_T ho) (by decide) rfl ⟨rfl, rfl, rfl, rfl⟩ rfl (k_opn ho hH hB (x := x) (by omega) (fun z14 h14 => ⟨_, rfl, ?_⟩))
  refine xild 18 ⟨u13, _, rfl⟩ rfl rfl ?_
  refine xand 19 ⟨u13, _, rfl⟩ rfl ?_
  refine xild 20 ⟨u13, _, rfl⟩ rfl rfl ?_
  refine xcst 21 (1) ⟨u13, _, rfl⟩ rfl (by decide) (fun z20 h20 => ?_)
  refine xild 22 ⟨u13, _, rfl⟩ rfl rfl ?_
  refine xshl 23 ⟨u13, _, rfl⟩ rfl ?_
  refine xcst 24 (-1) ⟨u13, _, rfl⟩ rfl (by decide) (fun z23 h23 => ?_)
  refine xxor 25 ⟨u13, _, rfl⟩ rfl ?_
  refine xand 26 ⟨u13, _, rfl⟩ rfl ?_
  have n17 := (i_and h14 hs (op_lt V T x)).1
  have n25 := i_nd hs (i_shl (n := x) h20 (show z2.toInt = (x : Int) by omega) (by omega)).1 hm (by have := (i_shl (n := x) h20 (show z2.toInt = (x : Int) by omega) (by omega)).2; omega) h23
  refine xcmp_ne 29 ⟨u13, _, rfl⟩ rfl (fun c26 => ?_) (fun c26 => ?_)
  · refine xcst 51 (0) ⟨u13, _, rfl⟩ rfl (by decide) (fun z50 h50 => ?_)
    exact xretB ⟨u13, _, rfl⟩ rfl (by omega) (hR _ (Or.inr ⟨by omega, fun g => by have := key.mp g; omega⟩))
  · refine xald 30 ⟨u13, _, rfl⟩ rfl rfl ?_
    refine xild 31 ⟨u13, _, rfl⟩ rfl rfl ?_
    refine xcallC 34 (o := o) [.int _] [] hH ⟨u13, _, rfl⟩ rfl rfl (bo_lt ho) (bo_T ho) (by decide) rfl ⟨rfl, rfl, rfl, rfl⟩ rfl (k_opn ho hH hB (x := y) (by omega) (fun z31 h31 => ⟨_, rfl, ?_⟩))
    refine xild 35 ⟨u13, _, rfl⟩ rfl rfl ?_
    refine xand 36 ⟨u13, _, rfl⟩ rfl ?_
    refine xild 37 ⟨u13, _, rfl⟩ rfl rfl ?_
    refine xcst 38 (1) ⟨u13, _, rfl⟩ rfl (by decide) (fun z37 h37 => ?_)
    refine xild 39 ⟨u13, _, rfl⟩ rfl rfl ?_
    refine xshl 40 ⟨u13, _, rfl⟩ rfl ?_
    refine xcst 41 (-1) ⟨u13, _, rfl⟩ rfl (by decide) (fun z40 h40 => ?_)
    refine xxor 42 ⟨u13, _, rfl⟩ rfl ?_
    refine xand 43 ⟨u13, _, rfl⟩ rfl ?_
    have n34 := (i_and h31 hs (op_lt V T y)).1
    have n42 := i_nd hs (i_shl (n := y) h37 (show z8.toInt = (y : Int) by omega) (by omega)).1 hm (by have := (i_shl (n := y) h37 (show z8.toInt = (y : Int) by omega) (by omega)).2; omega) h40
    refine xcmp_ne 46 ⟨u13, _, rfl⟩ rfl (fun c43 => ?_) (fun c43 => ?_)
    · refine xcst 51 (0) ⟨u13, _, rfl⟩ rfl (by decide) (fun z50 h50 => ?_)
      exact xretB ⟨u13, _, rfl⟩ rfl (by omega) (hR _ (Or.inr ⟨by omega, fun g => by have := key.mp g; omega⟩))
    · refine xcst 47 (1) ⟨u13, _, rfl⟩ rfl (by decide) (fun z46 h46 => ?_)
      refine xgoto ⟨u13, _, rfl⟩ ?_
      exact xretB ⟨u13, _, rfl⟩ rfl (by omega) (hR _ (Or.inl ⟨by omega, key.mpr ⟨by omega, by omega⟩⟩))
theorem op_put {V x y z p : Nat} {T : sT} (hV : V ≤ 15) (hx : x < V) (hy : y < V) (hz : z < V) (hxy : ¬ x = y) (hyz : ¬ y = z) (hxz : ¬ x = z) : opN V (sPut T x y z) p = if p = x then ndif (ndif (opN V T x) (2 ^ y)) (2 ^ z) else if p = y then ndif (ndif (opN V T y) (2 ^ x)) (2 ^ z) else if p = z then ndif (ndif (opN V T z) (2 ^ x)) (2 ^ y) else opN V T p := by
  have go : ∀ x y z : Nat, x < V → y < V → z < V → ¬ x = y → ¬ y = z → ¬ x = z → ∀ S : sT, (∀ i, S x i = -1 ↔ (T x i = -1 ∧ ¬ i = y ∧ ¬ i = z)) → opN V S x = ndif (ndif (opN V T x) (2 ^ y)) (2 ^ z) := by
    intro x y z hx hy hz hxy hyz hxz S hS
    apply Nat.eq_of_testBit_eq
    intro i
    rw [nd_test, nd_test, op_test hV, op_test hV, p2_test, p2_test]
    have := hS i
    by_cases e1 : i = y
    · subst e1; simp [this]
    · by_cases e2 : i = z
      · subst e2; simp [this]
      · simp [this, e1, e2]
  have hS : ∀ p i, ¬ sPr x y z p i → sPut T x y z p i = T p i := fun p i h => by unfold sPut; rw [if_neg h]
  have hS2 : ∀ p i, sPr x y z p i → ¬ sPut T x y z p i = -1 := fun p i h => by
    unfold sPut; rw [if_pos h]
    obtain ⟨g1, g2, g3⟩ := h
    omega
  split
  · next e =>
    subst e
    refine go p y z hx hy hz hxy hyz hxz _ (fun i => ?_)
    by_cases h : sPr p y z p i
    · exact ⟨fun g => absurd g (hS2 _ _ h), fun g => absurd g (by omega)⟩
    · rw [hS _ _ h]
      exact ⟨fun g => ⟨g, by omega, by omega⟩, fun g => g.1⟩
  · next e1 =>
    split
    · next e =>
      subst e
      refine go p x z hy hx hz (by omega) hxz hyz _ (fun i => ?_)
      by_cases h : sPr x p z p i
      · exact ⟨fun g => absurd g (hS2 _ _ h), fun g => absurd g (by omega)⟩
      · rw [hS _ _ h]
        exact ⟨fun g => ⟨g, by omega, by omega⟩, fun g => g.1⟩
    · next e2 =>
      split
      · next e =>
        subst e
        refine go p x y hz hx hy (by omega) hxy (by omega) _ (fun i => ?_)
        by_cases h : sPr x y p p i
        · exact ⟨fun g => absurd g (hS2 _ _ h), fun g => absurd g (by omega)⟩
        · rw [hS _ _ h]
          exact ⟨fun g => ⟨g, by omega, by omega⟩, fun g => g.1⟩
      · next e3 =>
        apply Nat.eq_of_testBit_eq
        intro i
        rw [op_test hV, op_test hV, hS _ _ (by omega)]
theorem k_bput {d : Nat} {hp : amH} {R : xQ} {o V x y z : Nat} {T : sT} {s : Int32} (ho : bo o) (hH : bHk 84 bTT hp) (hB : bdOk hp o V T) (hs : s.toInt = ((m3 x y z : Nat) : Int)) (q1 : x < y) (q2 : y < z) (q3 : z < V) (hf : sFree T x y z)
    (hR : ∀ hp1, bHk 84 bTT hp1 → bFx [o + 1, o + 3] hp hp1 → bdOk hp1 o V (sPut T x y z) → R (.inl none) hp1) : xK (d + 2) 14 [.ref o, .int s] hp R := by
  obtain ⟨B1, B2, B3, B4, B5⟩ := id hB
  have hV : V ≤ 15 := B2.2.1
  obtain ⟨M0, M1, M2⟩ := mem3 q1 q2 (by omega)
  have hm := m3_lt (x := x) (y := y) (z := z) (by omega) (by omega) (by omega)
  have ox := B5 x (by omega)
  have oy := B5 y (by omega)
  have oz := B5 z (by omega)
  have lx := op_lt V T x
  have ly := op_lt V T y
  have lz := op_lt V T z
  have mx := nd_lt (n := 2 ^ y) lx
  have my := nd_lt (n := 2 ^ x) ly
  have mz := nd_lt (n := 2 ^ x) lz
  refine xin (M := am_m14) rfl rfl (by unfold xAv; simp [amOk, bo_lt ho, Value.category]) ?_
  refine xild 1 ⟨u14, _, rfl⟩ rfl rfl ?_
  refine xcst 2 (0) ⟨u14, _, rfl⟩ rfl (by decide) (fun z1 h1 => ?_)
  refine xcallS 5 [.int _, .int _] [] hH ⟨u14, _, rfl⟩ rfl rfl rfl rfl rfl (k_mem hH hs hm (i := 0) (by omega) (fun z2 h2 => ⟨_, rfl, ?_⟩))
  refine xist 6 ⟨u14, _, rfl⟩ rfl rfl ?_
  refine xild 7 ⟨u14, _, rfl⟩ rfl rfl ?_
  refine xcst 8 (1) ⟨u14, _, rfl⟩ rfl (by decide) (fun z7 h7 => ?_)
  refine xcallS 11 [.int _, .int _] [] hH ⟨u14, _, rfl⟩ rfl rfl rfl rfl rfl (k_mem hH hs hm (i := 1) (by omega) (fun z8 h8 => ⟨_, rfl, ?_⟩))
  refine xist 12 ⟨u14, _, rfl⟩ rfl rfl ?_
  refine xild 13 ⟨u14, _, rfl⟩ rfl rfl ?_
  refine xcst 14 (2) ⟨u14, _, rfl⟩ rfl (by decide) (fun z13 h13 => ?_)
  refine xcallS 17 [.int _, .int _] [] hH ⟨u14, _, rfl⟩ rfl rfl rfl rfl rfl (k_mem hH hs hm (i := 2) (by omega) (fun z14 h14 => ⟨_, rfl, ?_⟩))
  refine xist2 19 ⟨u14, _, rfl⟩ rfl rfl ?_
  refine xald 20 ⟨u14, _, rfl⟩ rfl rfl ?_
  refine xild 21 ⟨u14, _, rfl⟩ rfl rfl ?_
  refine xild 22 ⟨u14, _, rfl⟩ rfl rfl ?_
  refine xild2 24 ⟨u14, _, rfl⟩ rfl rfl ?_
  refine xcallC 27 (o := o) [.int _, .int _, .int _] [] hH ⟨u14, _, rfl⟩ rfl rfl (bo_lt ho) (bo_T ho) (by decide) rfl ⟨rfl, rfl, rfl, rfl⟩ rfl (k_join ho hH (V := V) B1 (x := x) (y := y) (by omega) (by omega) (by omega) (by omega) (by omega) ox oy lx ly (fun hp24 hH24 F24 E24 A24 B24 C24 => ⟨_, rfl, ?_⟩))
  refine xald 28 ⟨u14, _, rfl⟩ rfl rfl ?_
  refine xild 29 ⟨u14, _, rfl⟩ rfl rfl ?_
  refine xild2 31 ⟨u14, _, rfl⟩ rfl rfl ?_
  refine xild 32 ⟨u14, _, rfl⟩ rfl rfl ?_
  refine xcallC 35 (o := o) [.int _, .int _, .int _] [] hH24 ⟨u14, _, rfl⟩ rfl rfl (bo_lt ho) (bo_T ho) (by decide) rfl ⟨rfl, rfl, rfl, rfl⟩ rfl (k_join ho hH24 (V := V) (by rw [bFx_n F24 (by simp)]; exact B1) (x := x) (y := z) (by omega) (by omega) (by omega) (by omega) (by omega) A24 (by rw [C24 z (by omega) (by omega)]; exact oz) mx lz (fun hp32 hH32 F32 E32 A32 B32 C32 => ⟨_, rfl, ?_⟩))
  refine xald 36 ⟨u14, _, rfl⟩ rfl rfl ?_
  refine xild 37 ⟨u14, _, rfl⟩ rfl rfl ?_
  refine xild2 39 ⟨u14, _, rfl⟩ rfl rfl ?_
  refine xild 40 ⟨u14, _, rfl⟩ rfl rfl ?_
  refine xcallC 43 (o := o) [.int _, .int _, .int _] [] hH32 ⟨u14, _, rfl⟩ rfl rfl (bo_lt ho) (bo_T ho) (by decide) rfl ⟨rfl, rfl, rfl, rfl⟩ rfl (k_join ho hH32 (V := V) (by rw [bFx_n F32 (by simp), bFx_n F24 (by simp)]; exact B1) (x := y) (y := z) (by omega) (by omega) (by omega) (by omega) (by omega) (by rw [C32 y (by omega) (by omega)]; exact B24) B32 my mz (fun hp40 hH40 F40 E40 A40 B40 C40 => ⟨_, rfl, ?_⟩))
  have F := (F24.trans F32).trans F40
  have O := fun p => op_put (p := p) (T := T) hV (show x < V by omega) (show y < V by omega) q3 (by omega) (by omega) (by omega)
  exact xretV ⟨u14, _, rfl⟩ rfl (hR hp40 hH40 F ⟨by rw [bFx_n F (by simp)]; exact B1, sOk_put B2 (by omega) (by omega) q3 (by omega) (by omega) (by omega) hf, fun u v hu hv => by
      rw [E40 u v hu hv, E32 u v hu hv, E24 u v hu hv, B3 u v hu hv]
      unfold sPut
      by_cases e1 : (u = y ∧ v = z) ∨ (u = z ∧ v = y)
      · rw [if_pos e1, if_pos (by omega)]; omega
      · rw [if_neg e1]
        by_cases e2 : (u = x ∧ v = z) ∨ (u = z ∧ v = x)
        · rw [if_pos e2, if_pos (by omega)]; omega
        · rw [if_neg e2]
          by_cases e3 : (u = x ∧ v = y) ∨ (u = y ∧ v = x)
          · rw [if_pos e3, if_pos (by omega)]; omega
          · rw [if_neg e3, if_neg (by omega)], fun u v h => by
      unfold sPut
      rw [if_neg (by omega)]
      exact B4 u v h, fun p hp => by
      rw [O p]
      by_cases e1 : p = x
      · subst e1
        rw [if_pos rfl, C40 p (by omega) (by omega)]; exact A32
      · rw [if_neg e1]
        by_cases e2 : p = y
        · subst e2
          rw [if_pos rfl]; exact A40
        · rw [if_neg e2]
          by_cases e3 : p = z
          · subst e3
            rw [if_pos rfl]; exact B40
          · rw [if_neg e3, C40 p e2 e3, C32 p e1 e3, C24 p e1 e2]; exact B5 p hp⟩)
end
