/-! ##### 17.s.bits ##### -/
section
/-! ===== ways by hand: sets of points as numbers ===== -/
noncomputable def bN (x : Int32) : Nat := x.toBitVec.toNat
theorem bN_t {x : Int32} {n : Nat} (h : x.toInt = (n : Int)) : bN x = n := by
  have e : x.toInt = x.toBitVec.toInt := rfl
  rw [BitVec.toInt_eq_toNat_cond] at e
  have := x.toBitVec.isLt
  unfold bN
  split at e <;> omega
theorem t_bN {x : Int32} (h : bN x < 32768) : x.toInt = (bN x : Int) := by
  have e : x.toInt = x.toBitVec.toInt := rfl
  rw [BitVec.toInt_eq_toNat_cond] at e
  unfold bN at h ⊢
  split at e <;> omega
theorem i_or {x y : Int32} {a b : Nat} (hx : x.toInt = (a : Int)) (hy : y.toInt = (b : Int)) (ha : a < 32768) (hb : b < 32768) : (x ||| y).toInt = ((a ||| b : Nat) : Int) ∧ a ||| b < 32768 := by
  have e : bN (x ||| y) = a ||| b := by
    have h1 := bN_t hx
    have h2 := bN_t hy
    unfold bN at h1 h2 ⊢
    rw [Int32.toBitVec_or, BitVec.toNat_or, h1, h2]
  have h3 : a ||| b < 2 ^ 15 := Nat.or_lt_two_pow (by omega) (by omega)
  exact ⟨by rw [t_bN (by omega), e], h3⟩
theorem i_and {x y : Int32} {a b : Nat} (hx : x.toInt = (a : Int)) (hy : y.toInt = (b : Int)) (ha : a < 32768) : (x &&& y).toInt = ((a &&& b : Nat) : Int) ∧ a &&& b < 32768 := by
  have e : bN (x &&& y) = a &&& b := by
    have h1 := bN_t hx
    have h2 := bN_t hy
    unfold bN at h1 h2 ⊢
    rw [Int32.toBitVec_and, BitVec.toNat_and, h1, h2]
  have h3 : a &&& b ≤ a := Nat.and_le_left
  exact ⟨by rw [t_bN (by omega), e], by omega⟩
theorem i_xor {x y : Int32} {a b : Nat} (hx : x.toInt = (a : Int)) (hy : y.toInt = (b : Int)) (ha : a < 32768) (hb : b < 32768) : (x ^^^ y).toInt = ((a ^^^ b : Nat) : Int) ∧ a ^^^ b < 32768 := by
  have e : bN (x ^^^ y) = a ^^^ b := by
    have h1 := bN_t hx
    have h2 := bN_t hy
    unfold bN at h1 h2 ⊢
    rw [Int32.toBitVec_xor, BitVec.toNat_xor, h1, h2]
  have h3 : a ^^^ b < 2 ^ 15 := Nat.xor_lt_two_pow (by omega) (by omega)
  exact ⟨by rw [t_bN (by omega), e], h3⟩
theorem sh_all : ∀ c : Fin 15, ((1 : Int32) <<< (Int32.ofNat c &&& 31)).toInt = ((2 ^ (c : Nat) : Nat) : Int) ∧ 2 ^ (c : Nat) < 32768 ∧ (Int32.ofNat c &&& 31).toBitVec.smod 32 = BitVec.ofNat 32 c := by decide +kernel
theorem i_shl {o c : Int32} {n : Nat} (ho : o.toInt = 1) (hc : c.toInt = (n : Int)) (hn : n < 15) : (o <<< (c &&& 31)).toInt = ((2 ^ n : Nat) : Int) ∧ 2 ^ n < 32768 := by
  have ho : o = 1 := x_eq.mpr ho
  subst ho
  rw [i_of hc hn]
  have := sh_all ⟨n, hn⟩
  exact ⟨this.1, this.2.1⟩
theorem i_shr {x c : Int32} {a n : Nat} (hx : x.toInt = (a : Int)) (ha : a < 32768) (hc : c.toInt = (n : Int)) (hn : n < 15) : (x >>> (c &&& 31)).toInt = ((a >>> n : Nat) : Int) ∧ a >>> n < 32768 := by
  have h1 := bN_t hx
  rw [i_of hc hn]
  have hs := (sh_all ⟨n, hn⟩).2.2
  dsimp only at hs
  have hm : x.toBitVec.msb = false := by
    rw [BitVec.msb_eq_false_iff_two_mul_lt]
    unfold bN at h1
    omega
  have e : bN (x >>> (Int32.ofNat n &&& 31)) = a >>> n := by
    unfold bN at h1 ⊢
    rw [Int32.toBitVec_shiftRight, hs]
    unfold BitVec.sshiftRight'
    rw [BitVec.sshiftRight_eq_of_msb_false hm, BitVec.toNat_ushiftRight, h1, BitVec.toNat_ofNat, Nat.mod_eq_of_lt (by omega)]
  have h3 : a >>> n ≤ a := Nat.shiftRight_le a n
  exact ⟨by rw [t_bN (by omega), e], by omega⟩
theorem i_bit {x c o : Int32} {a n : Nat} (hx : x.toInt = (a : Int)) (ha : a < 32768) (hc : c.toInt = (n : Int)) (hn : n < 15) (ho : o.toInt = 1) : ((x >>> (c &&& 31)) &&& o).toInt = if a.testBit n then 1 else 0 := by
  obtain ⟨h1, h2⟩ := i_shr hx ha hc hn
  obtain ⟨h3, -⟩ := i_and (b := 1) h1 (by rw [ho]; rfl) h2
  rw [h3, Nat.and_one_is_mod]
  have e : a.testBit n = decide (a >>> n % 2 = 1) := by
    rw [Nat.testBit_eq_decide_div_mod_eq, Nat.shiftRight_eq_div_pow]
  rw [e]
  by_cases h : a >>> n % 2 = 1
  · rw [if_pos (decide_eq_true h), h]
    rfl
  · rw [if_neg (fun z => h (of_decide_eq_true z))]
    omega
theorem sh_all2 : ∀ c : Fin 16, (Int32.ofNat c &&& 31).toBitVec.smod 32 = BitVec.ofNat 32 c := by decide +kernel
theorem t_bN2 {x : Int32} (h : bN x < 2147483648) : x.toInt = (bN x : Int) := by
  have e : x.toInt = x.toBitVec.toInt := rfl
  rw [BitVec.toInt_eq_toNat_cond] at e
  unfold bN at h ⊢
  split at e <;> omega
theorem i_shrG {x c : Int32} {a n : Nat} (hx : x.toInt = (a : Int)) (hc : c.toInt = (n : Int)) (hn : n < 16) : (x >>> (c &&& 31)).toInt = ((a >>> n : Nat) : Int) := by
  have h1 := bN_t hx
  have hb := aMax x
  have hcc : c = Int32.ofNat n := by
    apply Int32.toInt_inj.mp
    rw [hc, Int32.toInt_ofNat_of_lt (by omega)]
  rw [hcc]
  have hs := sh_all2 ⟨n, hn⟩
  dsimp only at hs
  have hm : x.toBitVec.msb = false := by
    rw [BitVec.msb_eq_false_iff_two_mul_lt]
    unfold bN at h1
    omega
  have e : bN (x >>> (Int32.ofNat n &&& 31)) = a >>> n := by
    unfold bN at h1 ⊢
    rw [Int32.toBitVec_shiftRight, hs]
    unfold BitVec.sshiftRight'
    rw [BitVec.sshiftRight_eq_of_msb_false hm, BitVec.toNat_ushiftRight, h1, BitVec.toNat_ofNat, Nat.mod_eq_of_lt (by omega)]
  have h3 : a >>> n ≤ a := Nat.shiftRight_le a n
  rw [t_bN2 (by omega), e]
end
/-! ##### 17.t.clo ##### -/
section
/-! ===== ways by hand: closures ===== -/
noncomputable def Sub (s a : Nat) : Prop := ∀ i, s.testBit i = true → a.testBit i = true
noncomputable def mb (s : Nat) : Nat := ((List.range 15).filter (fun i => !s.testBit i)).length
theorem Sub_or {s a b : Nat} (h : Sub s a) : Sub s (a ||| b) := fun i hi => by
  rw [Nat.testBit_or, h i hi]
  rfl
theorem mb_lt {s a : Nat} (h : Sub s a) (hs : s < 32768) (ha : a < 32768) (hne : ¬ a = s) : mb a < mb s := by
  unfold mb
  refine fl_lt (fun i hi hq => ?_) ?_
  · cases e : s.testBit i
    · rfl
    · rw [h i e] at hq
      cases hq
  · refine Classical.byContradiction (fun hc => hne (Nat.eq_of_testBit_eq (fun i => ?_)))
    by_cases hi : i < 15
    · cases e : s.testBit i
      · cases e2 : a.testBit i
        · rfl
        · exact absurd ⟨i, List.mem_range.mpr hi, by rw [e]; rfl, by rw [e2]; rfl⟩ hc
      · exact h i e
    · have p : 2 ^ 15 ≤ 2 ^ i := Nat.pow_le_pow_right (by decide) (by omega)
      rw [Nat.testBit_lt_two_pow (x := s) (by omega), Nat.testBit_lt_two_pow (x := a) (by omega)]
theorem mb_le (s : Nat) : mb s ≤ 15 := by
  unfold mb
  have := List.length_filter_le (fun i => !s.testBit i) (List.range 15)
  rw [List.length_range] at this
  exact this
theorem l326y {d : Nat} {hp : amH} {R : xQ} (hH : bHk 84 bTT hp) (hP : P0 hp) {s x : Int32} {ss : Nat} {xx : Int} (x0 : 0 ≤ x.toInt) (x1 : x.toInt < rN hp 67 0) (hx : x.toInt = xx) (hQ : ∀ (a x1 : Int32) (aa : Nat) (v w : Option Value), x1.toInt = xx + 1 → a.toInt = (aa : Int) → aa < 32768 → Sub ss aa → xV (d + 1) am_m326 4 [some (.ref 66), some (.int s), some (.int a), some (.int x1), v, w] [] hp R) :
    ∀ (j : Nat) (a y : Int32) (v : Option Value) (aa : Nat), y.toInt + (j : Int) = 15 → 0 ≤ y.toInt → a.toInt = (aa : Int) → aa < 32768 → Sub ss aa → xV (d + 1) am_m326 15 [some (.ref 66), some (.int s), some (.int a), some (.int x), some (.int y), v] [] hp R := by
  have q1 := hP.1.1
  have q2 := hP.1.2.1
  intro j
  induction j using Nat.strongRecOn with
  | ind j ih =>
    intro a y v aa hj y0 ha ha2 hs
    have j47 : y.toInt < x.toInt → ∀ w : Int32, xV (d + 1) am_m326 47 [some (.ref 66), some (.int s), some (.int a), some (.int x), some (.int y), some (.int w)] [] hp R := by
      intro hyx w
      refine xild2 49 ⟨u326, _, rfl⟩ rfl rfl ?_
      refine xif_eq 52 ⟨u326, _, rfl⟩ rfl (fun c49 => ?_) (fun c49 => ?_)
      · refine xinc 78 (1) ⟨u326, _, rfl⟩ rfl rfl rfl (by decide) (by omega) (by omega) (fun z75 h75 => ?_)
        refine xgoto ⟨u326, _, rfl⟩ ?_
        exact ih (j - 1) (by omega) _ _ _ aa (by omega) (by omega) ha ha2 hs
      · refine xald 53 ⟨u326, _, rfl⟩ rfl rfl ?_
        refine xild 54 ⟨u326, _, rfl⟩ rfl rfl ?_
        refine xild2 56 ⟨u326, _, rfl⟩ rfl rfl ?_
        refine xcall 59 [.ref 66, .int _, .int _] [] hH ⟨u326, _, rfl⟩ rfl rfl rfl rfl rfl (k_third hH (by omega) (by omega) (by omega) (by omega) (fun z56 h56 => ⟨_, rfl, ?_⟩))
        refine xcst 60 (-1) ⟨u326, _, rfl⟩ rfl (by decide) (fun z59 h59 => ?_)
        refine xcmp_eq 63 ⟨u326, _, rfl⟩ rfl (fun c60 => ?_) (fun c60 => ?_)
        · refine xinc 78 (1) ⟨u326, _, rfl⟩ rfl rfl rfl (by decide) (by omega) (by omega) (fun z75 h75 => ?_)
          refine xgoto ⟨u326, _, rfl⟩ ?_
          exact ih (j - 1) (by omega) _ _ _ aa (by omega) (by omega) ha ha2 hs
        · refine xild 64 ⟨u326, _, rfl⟩ rfl rfl ?_
          refine xcst 65 (1) ⟨u326, _, rfl⟩ rfl (by decide) (fun z64 h64 => ?_)
          refine xald 66 ⟨u326, _, rfl⟩ rfl rfl ?_
          refine xild 67 ⟨u326, _, rfl⟩ rfl rfl ?_
          refine xild2 69 ⟨u326, _, rfl⟩ rfl rfl ?_
          refine xcall 72 [.ref 66, .int _, .int _] [.int _, .int _] hH ⟨u326, _, rfl⟩ rfl rfl rfl rfl rfl (k_third hH (by omega) (by omega) (by omega) (by omega) (fun z69 h69 => ⟨_, rfl, ?_⟩))
          obtain ⟨c, hc15, hcc⟩ : ∃ c : Nat, c < 15 ∧ tT hp x.toInt.toNat y.toInt.toNat = (c : Int) := by
            rcases Vf_m hP.1 (a := x.toInt.toNat) (b := y.toInt.toNat) (by omega) (by omega) with g | g
            · omega
            · exact g
          refine xshl 73 ⟨u326, _, rfl⟩ rfl ?_
          refine xor_ 74 ⟨u326, _, rfl⟩ rfl ?_
          obtain ⟨o1, o2⟩ := i_shl (o := z64) (c := z69) (n := z69.toInt.toNat) h64 (by omega) (by omega)
          obtain ⟨o3, o4⟩ := i_or ha o1 ha2 o2
          refine xist 75 ⟨u326, _, rfl⟩ rfl rfl ?_
          refine xinc 78 (1) ⟨u326, _, rfl⟩ rfl rfl rfl (by decide) (by omega) (by omega) (fun z75 h75 => ?_)
          refine xgoto ⟨u326, _, rfl⟩ ?_
          exact ih (j - 1) (by omega) _ _ _ _ (by omega) (by omega) o3 o4 (Sub_or hs)
    refine xild2 17 ⟨u326, _, rfl⟩ rfl rfl ?_
    refine xild 18 ⟨u326, _, rfl⟩ rfl rfl ?_
    refine xcmp_ge 21 ⟨u326, _, rfl⟩ rfl (fun c18 => ?_) (fun c18 => ?_)
    · refine xinc 84 (1) ⟨u326, _, rfl⟩ rfl rfl rfl (by decide) (by omega) (by omega) (fun z81 h81 => ?_)
      refine xgoto ⟨u326, _, rfl⟩ ?_
      exact hQ _ _ aa _ _ (by omega) ha ha2 hs
    · refine xild 22 ⟨u326, _, rfl⟩ rfl rfl ?_
      refine xild 23 ⟨u326, _, rfl⟩ rfl rfl ?_
      refine xshr 24 ⟨u326, _, rfl⟩ rfl ?_
      refine xcst 25 (1) ⟨u326, _, rfl⟩ rfl (by decide) (fun z24 h24 => ?_)
      refine xand 26 ⟨u326, _, rfl⟩ rfl ?_
      refine xcst 27 (1) ⟨u326, _, rfl⟩ rfl (by decide) (fun z26 h26 => ?_)
      refine xcmp_ne 30 ⟨u326, _, rfl⟩ rfl (fun c27 => ?_) (fun c27 => ?_)
      · refine xcst 45 (0) ⟨u326, _, rfl⟩ rfl (by decide) (fun z44 h44 => ?_)
        refine xist2 47 ⟨u326, _, rfl⟩ rfl rfl ?_
        exact j47 (by omega) _
      · refine xild 31 ⟨u326, _, rfl⟩ rfl rfl ?_
        refine xild2 33 ⟨u326, _, rfl⟩ rfl rfl ?_
        refine xshr 34 ⟨u326, _, rfl⟩ rfl ?_
        refine xcst 35 (1) ⟨u326, _, rfl⟩ rfl (by decide) (fun z34 h34 => ?_)
        refine xand 36 ⟨u326, _, rfl⟩ rfl ?_
        refine xcst 37 (1) ⟨u326, _, rfl⟩ rfl (by decide) (fun z36 h36 => ?_)
        refine xcmp_ne 40 ⟨u326, _, rfl⟩ rfl (fun c37 => ?_) (fun c37 => ?_)
        · refine xcst 45 (0) ⟨u326, _, rfl⟩ rfl (by decide) (fun z44 h44 => ?_)
          refine xist2 47 ⟨u326, _, rfl⟩ rfl rfl ?_
          exact j47 (by omega) _
        · refine xcst 41 (1) ⟨u326, _, rfl⟩ rfl (by decide) (fun z40 h40 => ?_)
          refine xgoto ⟨u326, _, rfl⟩ ?_
          refine xist2 47 ⟨u326, _, rfl⟩ rfl rfl ?_
          exact j47 (by omega) _
theorem l326x {d : Nat} {hp : amH} {R : xQ} (hH : bHk 84 bTT hp) (hP : P0 hp) {s : Int32} {ss : Nat} (hs0 : s.toInt = (ss : Int)) (hss : ss < 32768) (hrec : ∀ (s1 : Int32) (n1 : Nat), s1.toInt = (n1 : Int) → n1 < 32768 → mb n1 < mb ss → ∀ R1 : xQ, (∀ z : Int32, R1 (.inl (some (.int z))) hp) → xK d 326 [.ref 66, .int s1] hp R1) (hR : ∀ z : Int32, R (.inl (some (.int z))) hp) :
    ∀ (j : Nat) (a x : Int32) (v w : Option Value) (aa : Nat), x.toInt + (j : Int) = 15 → 0 ≤ x.toInt → a.toInt = (aa : Int) → aa < 32768 → Sub ss aa → xV (d + 1) am_m326 4 [some (.ref 66), some (.int s), some (.int a), some (.int x), v, w] [] hp R := by
  have q1 := hP.1.1
  have q2 := hP.1.2.1
  intro j
  induction j using Nat.strongRecOn with
  | ind j ih =>
    intro a x v w aa hj x0 ha ha2 hs
    refine xild 5 ⟨u326, _, rfl⟩ rfl rfl ?_
    refine xald 6 ⟨u326, _, rfl⟩ rfl rfl ?_
    refine xcall 9 [.ref 66] [.int _] hH ⟨u326, _, rfl⟩ rfl rfl rfl rfl rfl (k_points hH (fun z6 h6 => ⟨_, rfl, ?_⟩))
    refine xcmp_ge 12 ⟨u326, _, rfl⟩ rfl (fun c9 => ?_) (fun c9 => ?_)
    · refine xild 88 ⟨u326, _, rfl⟩ rfl rfl ?_
      refine xild 89 ⟨u326, _, rfl⟩ rfl rfl ?_
      refine xcmp_ne 92 ⟨u326, _, rfl⟩ rfl (fun c89 => ?_) (fun c89 => ?_)
      · refine xald 97 ⟨u326, _, rfl⟩ rfl rfl ?_
        refine xild 98 ⟨u326, _, rfl⟩ rfl rfl ?_
        refine xcall 101 [.ref 66, .int _] [] hH ⟨u326, _, rfl⟩ rfl rfl rfl rfl rfl (hrec _ aa ha ha2 (mb_lt hs hss ha2 (by omega)) _ (fun z98 => ⟨_, rfl, ?_⟩))
        exact xret ⟨u326, _, rfl⟩ rfl (hR _)
      · refine xild 93 ⟨u326, _, rfl⟩ rfl rfl ?_
        refine xgoto ⟨u326, _, rfl⟩ ?_
        exact xret ⟨u326, _, rfl⟩ rfl (hR _)
    · refine xcst 13 (0) ⟨u326, _, rfl⟩ rfl (by decide) (fun z12 h12 => ?_)
      refine xist2 15 ⟨u326, _, rfl⟩ rfl rfl ?_
      exact l326y hH hP x0 (by omega) rfl (fun a1 x1 aa1 v1 w1 k1 k2 k3 k4 => ih (j - 1) (by omega) _ _ _ _ aa1 (by omega) (by omega) k2 k3 k4) 15 _ _ _ aa (by omega) (by omega) ha ha2 hs
theorem k_clo0 {d : Nat} {hp : amH} {R : xQ} (hH : bHk 84 bTT hp) (hP : P0 hp) {s : Int32} {ss : Nat} (hs0 : s.toInt = (ss : Int)) (hss : ss < 32768) (hrec : ∀ (s1 : Int32) (n1 : Nat), s1.toInt = (n1 : Int) → n1 < 32768 → mb n1 < mb ss → ∀ R1 : xQ, (∀ z : Int32, R1 (.inl (some (.int z))) hp) → xK d 326 [.ref 66, .int s1] hp R1) (hR : ∀ z : Int32, R (.inl (some (.int z))) hp) : xK (d + 1) 326 [.ref 66, .int s] hp R := by
  refine xin (M := am_m326) rfl rfl rfl ?_
  refine xild 1 ⟨u326, _, rfl⟩ rfl rfl ?_
  refine xist 2 ⟨u326, _, rfl⟩ rfl rfl ?_
  refine xcst 3 (0) ⟨u326, _, rfl⟩ rfl (by decide) (fun z2 h2 => ?_)
  refine xist 4 ⟨u326, _, rfl⟩ rfl rfl ?_
  refine xpad 2 ?_
  exact l326x hH hP hs0 hss hrec hR 15 _ _ _ _ ss (by omega) (by omega) hs0 hss (fun i h => h)
theorem k_clo {hp : amH} (hH : bHk 84 bTT hp) (hP : P0 hp) : ∀ (D : Nat) {s : Int32} {ss : Nat} {R : xQ}, s.toInt = (ss : Int) → ss < 32768 → mb ss ≤ D → (∀ z : Int32, R (.inl (some (.int z))) hp) → xK (D + 1) 326 [.ref 66, .int s] hp R
  | 0, s, ss, R, h1, h2, h3, hR => k_clo0 hH hP h1 h2 (fun s1 n1 _ _ h => by omega) hR
  | D + 1, s, ss, R, h1, h2, h3, hR => k_clo0 hH hP h1 h2 (fun s1 n1 g1 g2 g3 R1 g4 => k_clo hH hP D g1 g2 (by omega) g4) hR
end
/-! ##### 17.u.print ##### -/
section
/-! ===== ways by hand: what is printed ===== -/
noncomputable def wOut : List (Nat × Nat) := [(66, 32), (82, 999)]
theorem b3_bit : ∀ x y z p : Fin 15, x < y → y < z → (2 ^ (x : Nat) + 2 ^ (y : Nat) + 2 ^ (z : Nat)).testBit p = (p == x || p == y || p == z) := by decide +kernel
theorem u335 : bUp 0 am_m335.1 = true := by decide +kernel
theorem u336 : bUp 0 am_m336.1 = true := by decide +kernel
theorem u337 : bUp 0 am_m337.1 = true := by decide +kernel
theorem k_write {d : Nat} {hp : amH} {R : xQ} {c : Int32} {o : Nat} (hH : bHk 84 bTT hp) (hP : P0 hp) (ho : rN hp 66 32 = (o : Int)) (ho2 : o < 30) (hR : ∀ hp1, bHk 84 bTT hp1 → P0 hp1 → bFr wOut hp hp1 → rN hp1 66 32 = ((o + 1 : Nat) : Int) → R (.inl none) hp1) : xK d 335 [.ref 66, .int c] hp R := by
  refine xin (M := am_m335) rfl rfl rfl ?_
  have b1 := aMin c
  have b2 := aMax c
  refine xald 1 ⟨u335, _, rfl⟩ rfl rfl ?_
  refine xgetR 4 82 hH ⟨u335, _, rfl⟩ rfl rfl ?_
  refine xald 5 ⟨u335, _, rfl⟩ rfl rfl ?_
  refine xgetI 8 hH ⟨u335, _, rfl⟩ rfl rfl (fun z5 h5 => ?_)
  refine xild 9 ⟨u335, _, rfl⟩ rfl rfl ?_
  refine xiast 10 o hH ⟨u335, _, rfl⟩ rfl (by decide) rfl (by omega) (by omega) (by omega) (by omega) (fun hp9 hH9 U9 => ?_)
  refine xald 11 ⟨u335, _, rfl⟩ rfl rfl ?_
  refine xdup 12 ⟨u335, _, rfl⟩ rfl rfl ?_
  refine xgetI 15 hH9 ⟨u335, _, rfl⟩ rfl rfl (fun z12 h12 => ?_)
  have o12 : z12.toInt = (o : Int) := by rw [h12, rU_ne U9 (by omega), ho]
  refine xcst 16 (1) ⟨u335, _, rfl⟩ rfl (by decide) (fun z15 h15 => ?_)
  refine xadd 17 _ ⟨u335, _, rfl⟩ rfl rfl (by omega) (by omega) (fun z16 h16 => ?_)
  refine xputI 20 hH9 ⟨u335, _, rfl⟩ rfl rfl ⟨rfl, rfl⟩ (by omega) (by omega) (fun hp17 hH17 U17 => ?_)
  have hF : bFr wOut hp hp17 := (rU_fr U9 (bIn_all (by decide) o)).trans (rU_fr U17 (by decide))
  exact xretV ⟨u335, _, rfl⟩ rfl (hR hp17 hH17 (P0_W (W := wOut) (by decide) hF hP) hF (by rw [U17.1]; omega))
theorem k_wp {d : Nat} {hp : amH} {R : xQ} {c : Int32} {o : Nat} (hH : bHk 84 bTT hp) (hP : P0 hp) (ho : rN hp 66 32 = (o : Int)) (ho2 : o < 30) (c0 : 0 ≤ c.toInt) (c1 : c.toInt < 15) (hR : ∀ hp1, bHk 84 bTT hp1 → P0 hp1 → bFr wOut hp hp1 → rN hp1 66 32 = ((o + 1 : Nat) : Int) → R (.inl none) hp1) : xK (d + 1) 336 [.ref 66, .int c] hp R := by
  refine xin (M := am_m336) rfl rfl rfl ?_
  refine xald 1 ⟨u336, _, rfl⟩ rfl rfl ?_
  refine xild 2 ⟨u336, _, rfl⟩ rfl rfl ?_
  refine xbip 4 (10) ⟨u336, _, rfl⟩ rfl (by decide) (fun z2 h2 => ?_)
  refine xcmp_ge 7 ⟨u336, _, rfl⟩ rfl (fun c4 => ?_) (fun c4 => ?_)
  · refine xbip 16 (97) ⟨u336, _, rfl⟩ rfl (by decide) (fun z14 h14 => ?_)
    refine xild 17 ⟨u336, _, rfl⟩ rfl rfl ?_
    refine xadd 18 _ ⟨u336, _, rfl⟩ rfl rfl (by omega) (by omega) (fun z17 h17 => ?_)
    refine xbip 20 (10) ⟨u336, _, rfl⟩ rfl (by decide) (fun z18 h18 => ?_)
    refine xsub 21 _ ⟨u336, _, rfl⟩ rfl rfl (by omega) (by omega) (fun z20 h20 => ?_)
    refine xcall 24 [.ref 66, .int _] [] hH ⟨u336, _, rfl⟩ rfl rfl rfl rfl rfl (k_write hH hP (o := o) ho (by omega) (fun hp21 hH21 hP21 F21 O21 => ⟨_, rfl, ?_⟩))
    exact xretV ⟨u336, _, rfl⟩ rfl (hR _ hH21 hP21 F21 O21)
  · refine xbip 9 (48) ⟨u336, _, rfl⟩ rfl (by decide) (fun z7 h7 => ?_)
    refine xild 10 ⟨u336, _, rfl⟩ rfl rfl ?_
    refine xadd 11 _ ⟨u336, _, rfl⟩ rfl rfl (by omega) (by omega) (fun z10 h10 => ?_)
    refine xgoto ⟨u336, _, rfl⟩ ?_
    refine xcall 24 [.ref 66, .int _] [] hH ⟨u336, _, rfl⟩ rfl rfl rfl rfl rfl (k_write hH hP (o := o) ho (by omega) (fun hp21 hH21 hP21 F21 O21 => ⟨_, rfl, ?_⟩))
    exact xretV ⟨u336, _, rfl⟩ rfl (hR _ hH21 hP21 F21 O21)
noncomputable def Ptc (A : Nat → Nat × Nat × Nat) (p t c : Nat) : Prop := ∃ L : List Nat, L.Nodup ∧ (∀ w ∈ L, w < 15 ∧ ¬ w = p ∧ ∃ k, k < t ∧ prA A k p w) ∧ L.length = 2 * c
theorem Ptc_n {A : Nat → Nat × Nat × Nat} {p t c : Nat} (h : Ptc A p t c) : Ptc A p (t + 1) c := by
  obtain ⟨L, h1, h2, h3⟩ := h
  refine ⟨L, h1, fun w hw => ?_, h3⟩
  obtain ⟨g1, g2, k, g3, g4⟩ := h2 w hw
  exact ⟨g1, g2, k, by omega, g4⟩
theorem Ptc_7 {A : Nat → Nat × Nat × Nat} {p t c : Nat} (h : Ptc A p t c) : 2 * c ≤ 15 := by
  obtain ⟨L, h1, h2, h3⟩ := h
  have := nd_len L (List.range 15) h1 (fun w hw => List.mem_range.mpr (h2 w hw).1)
  rw [List.length_range] at this
  omega
theorem Ptc_s {T : Nat → Nat → Int} {q : Int} {m : Nat} {A : Nat → Nat × Nat × Nat} {p t c : Nat} (hq : q ≤ 15) (hS : Sys T q m A) (ht : t < m) (h : Ptc A p t c) (hp : p = (A t).1 ∨ p = (A t).2.1 ∨ p = (A t).2.2) : Ptc A p (t + 1) (c + 1) := by
  obtain ⟨L, h1, h2, h3⟩ := h
  have hs := hS.2.1 t ht
  have key : ∀ u v : Nat, ¬ u = p → ¬ v = p → ¬ u = v → prA A t p u → prA A t p v → Ptc A p (t + 1) (c + 1) := by
    intro u v hu hv huv pu pv
    have no : ∀ w, prA A t p w → ¬ w ∈ L := by
      intro w pw hw
      obtain ⟨-, -, k, hk, pk⟩ := h2 w hw
      have := hS.2.2.2.1 k t p w (by omega) ht pk pw
      omega
    refine ⟨u :: v :: L, List.nodup_cons.mpr ⟨fun hm => ?_, List.nodup_cons.mpr ⟨no v pv, h1⟩⟩, fun w hw => ?_, by simp only [List.length_cons]; omega⟩
    · rcases List.mem_cons.mp hm with z | z
      · exact huv z
      · exact no u pu z
    · rcases List.mem_cons.mp hw with rfl | hw
      · exact ⟨by obtain ⟨-, -, z⟩ := pu; omega, hu, t, by omega, pu⟩
      · rcases List.mem_cons.mp hw with rfl | hw
        · exact ⟨by obtain ⟨-, -, z⟩ := pv; omega, hv, t, by omega, pv⟩
        · obtain ⟨g1, g2, k, g3, g4⟩ := h2 w hw
          exact ⟨g1, g2, k, by omega, g4⟩
  rcases hp with rfl | rfl | rfl
  · exact key (A t).2.1 (A t).2.2 (by omega) (by omega) (by omega) ⟨by omega, by omega, by omega⟩ ⟨by omega, by omega, by omega⟩
  · exact key (A t).1 (A t).2.2 (by omega) (by omega) (by omega) ⟨by omega, by omega, by omega⟩ ⟨by omega, by omega, by omega⟩
  · exact key (A t).1 (A t).2.1 (by omega) (by omega) (by omega) ⟨by omega, by omega, by omega⟩ ⟨by omega, by omega, by omega⟩
end
/-! ##### 17.w.walk ##### -/
section
/-! ===== ways by hand: walks ===== -/
noncomputable def ab (a b k : Nat) : Nat := if k % 2 = 0 then a else b
end
/-! ##### 17.x.cyc ##### -/
section
/-! ===== ways by hand: cycles laid ===== -/
theorem u225 : bUp 0 am_m225.1 = true := by decide +kernel
theorem u226 : bUp 0 am_m226.1 = true := by decide +kernel
theorem u228 : bUp 0 am_m228.1 = true := by decide +kernel
theorem u230 : bUp 0 am_m230.1 = true := by decide +kernel
end
/-! ##### 18.a.quad ##### -/
section
/-! ===== quadrilaterals: four triples, six points ===== -/
noncomputable def me (B : Nat → Nat × Nat × Nat) (t u : Nat) : Prop := u = (B t).1 ∨ u = (B t).2.1 ∨ u = (B t).2.2
noncomputable def six (a b c d e f : Nat) (i : Fin 6) : Nat := if i = 0 then a else if i = 1 then b else if i = 2 then c else if i = 3 then d else if i = 4 then e else f
section SX
variable {B : Nat → Nat × Nat × Nat} {P : Fin 6 → Nat}
end SX
end
/-! ##### 18.b.quad ##### -/
section
/-! ===== quadrilaterals out of sets of points ===== -/
noncomputable def mk (A : Nat → Nat × Nat × Nat) (k : Nat) : Nat := 2 ^ (A k).1 + 2 ^ (A k).2.1 + 2 ^ (A k).2.2
section QD
variable {t : Nat → Nat → Int} {p : Int} {m : Nat} {A : Nat → Nat × Nat × Nat} {i j k l : Nat}
end QD
end
/-! ##### 18.c.lq ##### -/
section
/-! ===== ways by hand: quadrilaterals laid ===== -/
theorem u212 : bUp 0 am_m212.1 = true := by decide +kernel
theorem u216 : bUp 0 am_m216.1 = true := by decide +kernel
theorem u217 : bUp 0 am_m217.1 = true := by decide +kernel
theorem u218 : bUp 0 am_m218.1 = true := by decide +kernel
theorem u219 : bUp 0 am_m219.1 = true := by decide +kernel
theorem u220 : bUp 0 am_m220.1 = true := by decide +kernel
theorem u222 : bUp 0 am_m222.1 = true := by decide +kernel
theorem u223 : bUp 0 am_m223.1 = true := by decide +kernel
theorem u224 : bUp 0 am_m224.1 = true := by decide +kernel
theorem u258 : bUp 0 am_m258.1 = true := by decide +kernel
theorem u261 : bUp 0 am_m261.1 = true := by decide +kernel
theorem u292 : bUp 0 am_m292.1 = true := by decide +kernel
theorem u293 : bUp 0 am_m293.1 = true := by decide +kernel
theorem u294 : bUp 0 am_m294.1 = true := by decide +kernel
theorem u295 : bUp 0 am_m295.1 = true := by decide +kernel
end
/-! ##### 18.e.opp ##### -/
section
/-! ===== ways by hand: opposite points ===== -/
noncomputable def ad (a b : Nat) : Nat := a &&& (b ^^^ 4294967295)
theorem nt_all : ∀ n : Fin 15, (ntF (Int32.ofNat (2 ^ (n : Nat)))).toInt = (n : Int) := by decide +kernel
theorem k_ntz {d : Nat} {hp : amH} {R : xQ} {x : Int32} {n : Nat} (hx : x.toInt = ((2 ^ n : Nat) : Int)) (hn : n < 15) (hR : ∀ z : Int32, z.toInt = (n : Int) → R (.inl (some (.int z))) hp) : xK d 342 [.int x] hp R := by
  refine ⟨am_m342, rfl, w_ntz (hR _ ?_)⟩
  have p2 : 2 ^ n < 2 ^ 15 := Nat.pow_lt_pow_right (by decide) hn
  have e : x = Int32.ofNat (2 ^ n) := by
    apply Int32.toInt_inj.mp
    rw [hx, Int32.toInt_ofNat_of_lt (by omega)]
  rw [e]
  exact nt_all ⟨n, hn⟩
end
/-! ##### 18.j.tok ##### -/
section
/-! ===== ways by hand: the text: bytes, tokens ===== -/
theorem u199 : bUp 0 am_m199.1 = true := by decide +kernel
theorem u241 : bUp 0 am_m241.1 = true := by decide +kernel
theorem u242 : bUp 0 am_m242.1 = true := by decide +kernel
theorem u243 : bUp 0 am_m243.1 = true := by decide +kernel
theorem u244 : bUp 0 am_m244.1 = true := by decide +kernel
theorem u245 : bUp 0 am_m245.1 = true := by decide +kernel
theorem u246 : bUp 0 am_m246.1 = true := by decide +kernel
theorem u247 : bUp 0 am_m247.1 = true := by decide +kernel
theorem u248 : bUp 0 am_m248.1 = true := by decide +kernel
theorem u249 : bUp 0 am_m249.1 = true := by decide +kernel
theorem u250 : bUp 0 am_m250.1 = true := by decide +kernel
theorem u251 : bUp 0 am_m251.1 = true := by decide +kernel
theorem k_byte {d : Nat} {hp : amH} {R : xQ} {k : Int32} (hH : bHk 84 bTT hp) (k0 : 0 ≤ k.toInt) (hR : ∀ z : Int32, ((z.toInt = -1 ∧ rN hp 66 21 ≤ k.toInt) ∨ (z.toInt = rN hp 80 k.toInt.toNat ∧ k.toInt < rN hp 66 21 ∧ 0 ≤ z.toInt ∧ z.toInt ≤ 255)) → R (.inl (some (.int z))) hp) : xK d 241 [.ref 66, .int k] hp R := by
  have hb21 := rb_fld hH (f := 21) (lo := 2147483648) (hi := 2147484248) rfl
  refine xin (M := am_m241) rfl rfl rfl ?_
  refine xild 1 ⟨u241, _, rfl⟩ rfl rfl ?_
  refine xald 2 ⟨u241, _, rfl⟩ rfl rfl ?_
  refine xgetI 5 hH ⟨u241, _, rfl⟩ rfl rfl (fun z2 h2 => ?_)
  refine xcmp_ge 8 ⟨u241, _, rfl⟩ rfl (fun c5 => ?_) (fun c5 => ?_)
  · refine xcst 18 (-1) ⟨u241, _, rfl⟩ rfl (by decide) (fun z17 h17 => ?_)
    exact xret ⟨u241, _, rfl⟩ rfl (hR _ (Or.inl ⟨by omega, by omega⟩))
  · refine xald 9 ⟨u241, _, rfl⟩ rfl rfl ?_
    refine xgetR 12 80 hH ⟨u241, _, rfl⟩ rfl rfl ?_
    refine xild 13 ⟨u241, _, rfl⟩ rfl rfl ?_
    refine xiald 14 k.toInt.toNat hH ⟨u241, _, rfl⟩ rfl (by decide) rfl (by omega) (by omega) (fun z13 h13 => ?_)
    have hb80 := rb_row hH (q := 80) (i := k.toInt.toNat) (by decide) rfl (by omega)
    refine xgoto ⟨u241, _, rfl⟩ ?_
    exact xret ⟨u241, _, rfl⟩ rfl (hR _ (Or.inr ⟨by omega, by omega, by omega, by omega⟩))
noncomputable def wAdv : List (Nat × Nat) := [(66, 26), (66, 27), (66, 28), (66, 29)]
/-- places in the text -/
noncomputable def PA (hp : amH) : Prop := 0 ≤ rN hp 66 27 ∧ rN hp 66 27 ≤ rN hp 66 26 ∧ rN hp 66 26 ≤ rN hp 66 21 ∧ rN hp 66 21 ≤ 600
end
/-! ##### 18.k.text ##### -/
section
/-! ===== ways by hand: words, points of the text ===== -/
section XW
variable {M : amM} {pc a b d : Nat} {L : List (Option Value)} {st : List Value} {hp : amH} {Q : xQ}
theorem xldcW (q : Nat) {i : _} (h : xI M pc (.ldc i) a 1) (e : q = pc + 2) (hw : xV d M q L (.ref (amK + a) :: st) hp Q) : xV d M pc L st hp Q := by
  refine xstep h (fun cl hl => ⟨cl, ?_, hl⟩) hw
  subst e
  simp [amDo, amStep]
theorem xldcW3 (q : Nat) {i : _} (h : xI M pc (.ldc_w i) a 1) (e : q = pc + 3) (hw : xV d M q L (.ref (amK + a) :: st) hp Q) : xV d M pc L st hp Q := by
  refine xstep h (fun cl hl => ⟨cl, ?_, hl⟩) hw
  subst e
  simp [amDo, amStep]
noncomputable def xS8 (st : List Value) : Bool := Nat.ble ((st.map fun v => v.category).sum) 8
theorem xlenS (q : Nat) {i : _} {r : Nat} {l : List Int32} (h : xI M pc (.invokevirtual i) a 7) (e : q = pc + 3) (hl : amWd r = some l ∧ l.length ≤ 100) (h8 : xS8 st = true) (hw : ∀ z : Int32, z.toInt = (l.length : Int) → xV d M q L (.int z :: st) hp Q) : xV d M pc L (.ref r :: st) hp Q := by
  refine xstep h (fun cl hcl => ⟨cl, ?_, hcl⟩) (hw (Int32.ofNat l.length) (Int32.toInt_ofNat_of_lt (by have := hl.2; omega)))
  subst e
  have h8 := Nat.le_of_ble_eq_true h8
  simp only [amDo, if_true, amLenS, hl.1]
  rw [if_pos h8]
end XW
noncomputable def wFa : List (Nat × Nat) := [(66, 24), (66, 25)]
end
/-! ##### 18.l.stmt ##### -/
section
/-! ===== ways by hand: points read, statements ===== -/
noncomputable def wTK : List (Nat × Nat) := [(66, 24), (66, 25), (66, 26), (66, 27), (66, 28), (66, 29), (81, 999)]
end
/-! ##### 18.m.trip ##### -/
section
/-! ===== ways by hand: triples read ===== -/
noncomputable def wRS : List (Nat × Nat) := (67, 999) :: wTK
/-- points read so far -/
noncomputable def T3 (hp0 hp : amH) (k : Nat) : Prop := bFr wTK hp0 hp ∧ PA hp ∧ rN hp0 66 26 ≤ rN hp 66 26 ∧ (∀ i, i < k → 0 ≤ rN hp 81 i ∧ rN hp 81 i ≤ rN hp 67 0 - 1) ∧ (∀ i j, i < j → j < k → ¬ rN hp 81 i = rN hp 81 j)
end
/-! ##### 18.n.text ##### -/
section
/-! ===== ways by hand: points, statements, text read ===== -/
noncomputable def hE (hp : amH) : Prop := ∀ i, 4 ≤ i → i < 229 → rN hp 67 i = -1
theorem hE_V {hp : amH} (h : hE hp) (h0 : 3 ≤ rN hp 67 0) (h1 : rN hp 67 0 ≤ 15) : Vf (rN hp 67) := ⟨h0, h1, fun a b ha hb => Or.inl (h _ (by omega) (by omega))⟩
end
/-! ##### 18.o.load ##### -/
section
/-! ===== ways by hand: a system is laid empty; a text is read as a system ===== -/
theorem P0_56 {hp hp1 : amH} (hF : bFr [(66, 5), (66, 6)] hp hp1) (h5 : rN hp1 66 5 = 0) (h6 : rN hp1 66 6 = 0) (hP : P0 hp) : P0 hp1 :=
  ⟨Vf_eq (fun i _ => r_fr hF rfl) hP.1, fun z => absurd z (by omega), fun k hk => absurd hk (by omega), fun z => Vf_eq (fun i _ => r_fr hF rfl) (hP.2.2.2 (by rw [← show rN hp1 69 0 = rN hp 69 0 from r_fr hF rfl]; exact z))⟩
noncomputable def wLd : List (Nat × Nat) := [(66, 21), (66, 22), (66, 23), (66, 24), (66, 25), (66, 26), (66, 27), (66, 28), (66, 29), (81, 999)] ++ wM
theorem f21 {hp : amH} (hH : bHk 84 bTT hp) (h : rN hp 66 21 = 0) : bFacts hp [(66, 21, 2147483648, 2147483648)] := by
  intro f hf
  have hf : f = (66, 21, 2147483648, 2147483648) := by simpa using hf
  subst hf
  obtain ⟨vs, h1, -, -, -, x, h2, h3, -⟩ := x66I hH (f := 21) (lo := 2147483648) (hi := 2147484248) rfl
  refine ⟨x, ?_, ?_, ?_⟩
  · unfold bFld
    dsimp only
    rw [h1]
    exact h2
  · have := aOff_eq x
    show 2147483648 ≤ aOff x
    omega
  · have := aOff_eq x
    show aOff x ≤ 2147483648
    omega
end
/-! ##### 19.a.bytes ##### -/
section
/-! ===== ways by hand: the text's bytes, on both sides ===== -/
theorem x_fI {hp : amH} (hH : bHk 84 bTT hp) {c t n f lo hi : Nat} {ys : List bY} (hc : c < 84) (hT : bTT c = some (t, n, ys)) (hy : bDy (t, n, ys) f = some (.inl (lo, hi))) (hm : f < n) : ∃ vs, hp[c]? = some (t, vs) ∧ f < vs.length ∧ ∃ x, vs[f]? = some (.int x) ∧ x.toInt = rN hp c f ∧ lo ≤ aOff x ∧ aOff x ≤ hi := by
  obtain ⟨⟨t1, vs⟩, g1, g2, g3, g4⟩ := bHk_at hH hc hT
  have g2 : t1 = t := g2
  subst g2
  have g3 : vs.length = n := g3
  have hl : f < vs.length := by omega
  obtain ⟨y, k1, k2⟩ := g4 f vs[f] (List.getElem?_eq_getElem hl)
  rw [hy] at k1
  cases k1
  obtain ⟨x, e1, x1, x2⟩ := k2
  refine ⟨vs, g1, hl, x, by rw [List.getElem?_eq_getElem hl, e1], ?_, x1, x2⟩
  unfold rN bFld
  rw [g1]
  dsimp only
  rw [List.getElem?_eq_getElem hl, e1]
theorem x_fR {hp : amH} (hH : bHk 84 bTT hp) {c t n f j : Nat} {ys : List bY} (hc : c < 84) (hT : bTT c = some (t, n, ys)) (hy : bDy (t, n, ys) f = some (.inr (.inr [j]))) (hm : f < n) : ∃ vs, hp[c]? = some (t, vs) ∧ vs[f]? = some (.ref j) := by
  obtain ⟨⟨t1, vs⟩, g1, g2, g3, g4⟩ := bHk_at hH hc hT
  have g2 : t1 = t := g2
  subst g2
  have g3 : vs.length = n := g3
  have hl : f < vs.length := by omega
  obtain ⟨y, k1, k2⟩ := g4 f vs[f] (List.getElem?_eq_getElem hl)
  rw [hy] at k1
  cases k1
  obtain ⟨u, e1, -, e3⟩ := k2
  have hu : u = j := by simpa using e3
  exact ⟨vs, g1, by rw [List.getElem?_eq_getElem hl, e1, hu]⟩
theorem rb_c {hp : amH} (hH : bHk 84 bTT hp) {c t n f lo hi : Nat} {ys : List bY} (hc : c < 84) (hT : bTT c = some (t, n, ys)) (hy : bDy (t, n, ys) f = some (.inl (lo, hi))) (hm : f < n) : (lo : Int) - 2147483648 ≤ rN hp c f ∧ rN hp c f ≤ (hi : Int) - 2147483648 := by
  obtain ⟨vs, -, -, x, -, h2, h3, h4⟩ := x_fI hH hc hT hy hm
  have := aOff_eq x
  omega
/-- a number of a cell written -/
theorem x_set {hp : amH} (hH : bHk 84 bTT hp) {c t n f lo hi : Nat} {ys : List bY} {vs : List Value} {x : Int32} (hT : bTT c = some (t, n, ys)) (g1 : hp[c]? = some (t, vs)) (g2 : f < vs.length) (hy : bDy (t, n, ys) f = some (.inl (lo, hi))) (h1 : lo ≤ aOff x) (h2 : aOff x ≤ hi) (hc : c < 84) : bHk 84 bTT (hp.set c (t, vs.set f (.int x))) ∧ rU hp (hp.set c (t, vs.set f (.int x))) c f x.toInt := by
  obtain ⟨c0, q1, q2⟩ := bHk_at hH hc hT
  cases q1.symm.trans g1
  refine ⟨bHk_set hH hT (bHc_set q2 hy ⟨x, rfl, h1, h2⟩), ?_, fun c1 i1 hne => ?_⟩
  · unfold rN
    rw [bFld_set g1, if_pos rfl]
    dsimp only
    rw [List.getElem?_set_self g2]
  · rw [bFld_set g1]
    split
    · next z =>
      subst z
      dsimp only
      rw [List.getElem?_set_ne (fun z => hne ⟨rfl, z.symm⟩)]
      unfold bFld
      rw [g1]
    · rfl
section XD
variable {M : amM} {pc a b d : Nat} {L : List (Option Value)} {st : List Value} {hp : amH} {Q : xQ}
theorem xgetC (q : Nat) {c t n f lo hi : Nat} {ys : List bY} {i : _} (hH : bHk 84 bTT hp) (h : xI M pc (.getfield i) t f) (e : q = pc + 3) (hc : c < 84) (h32 : t < 32) (hT : bTT c = some (t, n, ys)) (hy : bDy (t, n, ys) f = some (.inl (lo, hi))) (hm : f < n) (hw : ∀ z : Int32, z.toInt = rN hp c f → xV d M q L (.int z :: st) hp Q) : xV d M pc L (.ref c :: st) hp Q := by
  obtain ⟨vs, h1, -, x, h2, h3, -⟩ := x_fI hH hc hT hy hm
  refine xstep h (fun cl hl => ⟨cl, ?_, hl⟩) (hw x h3)
  subst e
  simp [amDo, amStep, amFGet, h1, h2, h32]
theorem xgetD (q j : Nat) {c t n f : Nat} {ys : List bY} {i : _} (hH : bHk 84 bTT hp) (h : xI M pc (.getfield i) t f) (e : q = pc + 3) (hc : c < 84) (h32 : t < 32) (hT : bTT c = some (t, n, ys)) (hy : bDy (t, n, ys) f = some (.inr (.inr [j]))) (hm : f < n) (hw : xV d M q L (.ref j :: st) hp Q) : xV d M pc L (.ref c :: st) hp Q := by
  obtain ⟨vs, h1, h2⟩ := x_fR hH hc hT hy hm
  refine xstep h (fun cl hl => ⟨cl, ?_, hl⟩) hw
  subst e
  simp [amDo, amStep, amFGet, h1, h2, h32]
theorem xputC (q : Nat) {c t n f lo hi : Nat} {ys : List bY} {i : _} {x : Int32} (hH : bHk 84 bTT hp) (h : xI M pc (.putfield i) t f) (e : q = pc + 3) (hc : c < 84) (h32 : t < 32) (hT : bTT c = some (t, n, ys)) (hy : bDy (t, n, ys) f = some (.inl (lo, hi))) (hm : f < n) (hn : narrow (amFty t f) (.int x) = .int x ∧ fits (amFty t f) (.int x) = true) (h1 : (lo : Int) - 2147483648 ≤ x.toInt) (h2 : x.toInt ≤ (hi : Int) - 2147483648)
    (hw : ∀ hp1, bHk 84 bTT hp1 → rU hp hp1 c f x.toInt → xV d M q L st hp1 Q) : xV d M pc L (.int x :: .ref c :: st) hp Q := by
  obtain ⟨vs, g1, g2, -⟩ := x_fI hH hc hT hy hm
  have ho := aOff_eq x
  obtain ⟨k1, k2⟩ := x_set hH (x := x) hT g1 g2 hy (by omega) (by omega) hc
  refine xstep h (fun cl hl => ⟨cl, ?_, hl⟩) (hw _ k1 k2)
  subst e
  simp [amDo, amStep, amFSet, g1, g2, hn.1, hn.2, h32]
theorem xlenB (q : Nat) (hH : bHk 84 bTT hp) (h : xI M pc .arraylength a b) (e : q = pc + 1) (hw : ∀ z : Int32, z.toInt = 600 → xV d M q L (.int z :: st) hp Q) : xV d M pc L (.ref 2 :: st) hp Q := by
  obtain ⟨⟨t1, vs⟩, g1, g2, g3, -⟩ := bHk_at hH (i := 2) (by decide) (D := (34, 600, [.inl (2147483520, 2147483775)])) rfl
  have g2 : t1 = 34 := g2
  subst g2
  have g3 : vs.length = 600 := g3
  refine xstep h (fun cl hl => ⟨cl, ?_, hl⟩) (hw (Int32.ofNat 600) rfl)
  subst e
  simp [amDo, amStep, amScLen, amLen, g1, g3]
/-- a call of a method by an object of its class -/
theorem xcallC (q : Nat) {k o t n : Nat} {ys : List bY} {j : _} {N : amM} (av rest : List Value) {st : List Value} (hH : bHk 84 bTT hp) (h : xI M pc (.invokevirtual j) k 0) (e : q = pc + 3) (hst : st = (Value.ref o :: av).reverse ++ rest) (ho : o < 84) (hT : bTT o = some (t, n, ys)) (h32 : t < 32) (hN : amGG k = some N)
    (hc : N.2.2.1 = av.length + 1 ∧ N.2.2.2.2.2.2 = t ∧ Nat.ble (((Value.ref o :: av).reverse.map fun v => v.category).sum) N.2.1 = true ∧ Nat.ble ((rest.map fun v => v.category).sum) 8 = true) (hr : amOkS 84 rest = true)
    (hk : xK d k (.ref o :: av) hp (fun y hp1 => ∃ v, y = .inl v ∧ xV (d + 1) M q L (v.toList ++ rest) hp1 Q)) : xV (d + 1) M pc L st hp Q := by
  intro cl hl
  obtain ⟨hu, r, hr2⟩ := h
  obtain ⟨N', hN', hw⟩ := hk
  rw [hN] at hN'
  cases hN'
  rw [hr2]
  obtain ⟨c1, c2, c3, c4⟩ := hc
  have c3 := Nat.le_of_ble_eq_true c3
  have c4 := Nat.le_of_ble_eq_true c4
  have hlen : (Value.ref o :: av).reverse.length = N.2.2.1 := by rw [List.length_reverse, c1]; rfl
  have t1 : st.take N.2.2.1 = (Value.ref o :: av).reverse := by rw [hst, ← hlen, List.take_left]
  have t2 : st.drop N.2.2.1 = rest := by rw [hst, ← hlen, List.drop_left]
  have hrec : amRecv 0 N.2.2.2.2.2.2 hp (.ref o :: av) = true := by
    obtain ⟨⟨t3, vs⟩, g1, g2, -, -⟩ := bHk_at hH ho hT
    have g2 : t3 = t := g2
    subst g2
    unfold amRecv
    dsimp only
    rw [if_pos rfl, g1, c2]
    exact decide_eq_true ⟨rfl, h32⟩
  have hcall : amCall amGG 0 k cl st hp = some (.inr (.inr (.inr (k, .ref o :: av, rest)))) := by
    unfold amCall
    rw [hN]
    dsimp only
    rw [t1, t2, List.reverse_reverse, if_pos]
    refine ⟨by rw [hst, List.length_append]; omega, c3, ?_, c4⟩
    rw [hH.1, hl.1, hr, hrec]
    rfl
  have hdo : amDo amGG M none (.invokevirtual j) k 0 pc cl st hp = some (.inr (.inr (.inr (k, .ref o :: av, rest)))) := by
    simp only [amDo]
    rw [if_neg (by decide), if_neg (by decide)]
    exact hcall
  refine bWp_call (q := (pc, .invokevirtual j, k, 0)) hdo hN (bWp_mono hw (fun y hp1 hy => ?_))
  obtain ⟨v, rfl, hy⟩ := hy
  dsimp only
  rw [bUp_next hu (xI_suf hr2), ← e]
  exact hy cl hl
end XD
theorem u75 : bUp 0 am_m75.1 = true := by decide +kernel
theorem u76 : bUp 0 am_m76.1 = true := by decide +kernel
theorem u113 : bUp 0 am_m113.1 = true := by decide +kernel
theorem u114 : bUp 0 am_m114.1 = true := by decide +kernel
theorem u238 : bUp 0 am_m238.1 = true := by decide +kernel
theorem u239 : bUp 0 am_m239.1 = true := by decide +kernel
theorem u240 : bUp 0 am_m240.1 = true := by decide +kernel
theorem b10 {hp : amH} (hH : bHk 84 bTT hp) : 0 ≤ rN hp 1 0 ∧ rN hp 1 0 ≤ 600 := by
  have := rb_c hH (c := 1) (f := 0) (by decide) rfl rfl (by decide)
  omega
noncomputable def wTx : List (Nat × Nat) := [(1, 0), (2, 999)]
theorem k_hr {d : Nat} {hp : amH} {R : xQ} (hH : bHk 84 bTT hp) (hR : ∀ z : Int32, ((z.toInt = 1 ∧ rN hp 1 0 ≤ 580) ∨ (z.toInt = 0 ∧ 580 < rN hp 1 0)) → R (.inl (some (.int z))) hp) : xK d 75 [.ref 1] hp R := by
  have b1 := b10 hH
  refine xin (M := am_m75) rfl rfl rfl ?_
  refine xald 1 ⟨u75, _, rfl⟩ rfl rfl ?_
  refine xgetC 4 hH ⟨u75, _, rfl⟩ rfl (by decide) (by decide) rfl rfl (by decide) (fun z1 h1 => ?_)
  refine xbip 6 (20) ⟨u75, _, rfl⟩ rfl (by decide) (fun z4 h4 => ?_)
  refine xadd 7 _ ⟨u75, _, rfl⟩ rfl rfl (by omega) (by omega) (fun z6 h6 => ?_)
  refine xsip 10 (600) ⟨u75, _, rfl⟩ rfl (by decide) (fun z7 h7 => ?_)
  refine xcmp_gt 13 ⟨u75, _, rfl⟩ rfl (fun c10 => ?_) (fun c10 => ?_)
  · refine xcst 18 (0) ⟨u75, _, rfl⟩ rfl (by decide) (fun z17 h17 => ?_)
    exact xretB ⟨u75, _, rfl⟩ rfl (by omega) (hR _ (by omega))
  · refine xcst 14 (1) ⟨u75, _, rfl⟩ rfl (by decide) (fun z13 h13 => ?_)
    refine xgoto ⟨u75, _, rfl⟩ ?_
    exact xretB ⟨u75, _, rfl⟩ rfl (by omega) (hR _ (by omega))
theorem and255 (x z : Int32) (h : z.toInt = 255) : 0 ≤ (x &&& z).toInt ∧ (x &&& z).toInt ≤ 255 := by
  have e : z = 255 := Int32.toInt_inj.mp h
  subst e
  have h1 : (x &&& 255).toBitVec.toNat ≤ 255 := by rw [Int32.toBitVec_and, BitVec.toNat_and]; exact Nat.and_le_right
  have h2 : (x &&& 255).toInt = (x &&& 255).toBitVec.toInt := rfl
  rw [h2, BitVec.toInt_eq_toNat_cond]
  split <;> omega
noncomputable def wAp : List (Nat × Nat) := [(66, 21), (80, 999)]
theorem b21 {hp : amH} (hH : bHk 84 bTT hp) : 0 ≤ rN hp 66 21 ∧ rN hp 66 21 ≤ 600 := by
  have := rb_fld hH (f := 21) (lo := 2147483648) (hi := 2147484248) rfl
  omega
end
/-! ##### 19.a.values ##### -/
section
/-! ===== truncateInput, with its answers ===== -/
theorem k_114v {d : Nat} {hp : amH} {R : xQ} {x : Int32} (hH : bHk 84 bTT hp) (hR : ∀ (z : Int32) hp1, bHk 84 bTT hp1 → bFr [(1, 0)] hp hp1 → ((0 ≤ x.toInt ∧ x.toInt ≤ rN hp 1 0 ∧ rN hp1 1 0 = x.toInt ∧ z.toInt = 1) ∨ ((x.toInt < 0 ∨ rN hp 1 0 < x.toInt) ∧ rN hp1 1 0 = rN hp 1 0 ∧ z.toInt = 0)) → R (.inl (some (.int z))) hp1) : xK d 114 [.ref 0, .int x] hp R := by
  have b1 := b10 hH
  have m1 := aMin x
  have m2 := aMax x
  refine xin (M := am_m114) rfl rfl rfl ?_
  refine xild 1 ⟨u114, _, rfl⟩ rfl rfl ?_
  refine xif_lt 4 ⟨u114, _, rfl⟩ rfl (fun c1 => ?_) (fun c1 => ?_)
  · refine xcst 16 (0) ⟨u114, _, rfl⟩ rfl (by decide) (fun z15 h15 => ?_)
    exact xretB ⟨u114, _, rfl⟩ rfl (by omega) (hR _ hp hH (bFr.refl _ _) (Or.inr ⟨by omega, rfl, by omega⟩))
  · refine xild 5 ⟨u114, _, rfl⟩ rfl rfl ?_
    refine xald 6 ⟨u114, _, rfl⟩ rfl rfl ?_
    refine xgetD 9 1 hH ⟨u114, _, rfl⟩ rfl (by decide) (by decide) rfl rfl (by decide) ?_
    refine xgetC 12 hH ⟨u114, _, rfl⟩ rfl (by decide) (by decide) rfl rfl (by decide) (fun z9 h9 => ?_)
    refine xcmp_le 15 ⟨u114, _, rfl⟩ rfl (fun c12 => ?_) (fun c12 => ?_)
    · refine xald 18 ⟨u114, _, rfl⟩ rfl rfl ?_
      refine xgetD 21 1 hH ⟨u114, _, rfl⟩ rfl (by decide) (by decide) rfl rfl (by decide) ?_
      refine xild 22 ⟨u114, _, rfl⟩ rfl rfl ?_
      refine xputC 25 hH ⟨u114, _, rfl⟩ rfl (by decide) (by decide) rfl rfl (by decide) ⟨rfl, rfl⟩ (by omega) (by omega) (fun hp22 hH22 U22 => ?_)
      have s22 := U22.1
      refine xcst 26 (1) ⟨u114, _, rfl⟩ rfl (by decide) (fun z25 h25 => ?_)
      exact xretB ⟨u114, _, rfl⟩ rfl (by omega) (hR _ hp22 hH22 (rU_fr U22 (by decide)) (Or.inl ⟨by omega, by omega, by omega, by omega⟩))
    · refine xcst 16 (0) ⟨u114, _, rfl⟩ rfl (by decide) (fun z15 h15 => ?_)
      exact xretB ⟨u114, _, rfl⟩ rfl (by omega) (hR _ hp hH (bFr.refl _ _) (Or.inr ⟨by omega, rfl, by omega⟩))
theorem k_240v {d : Nat} {hp : amH} {R : xQ} {x : Int32} (hH : bHk 84 bTT hp) (hR : ∀ (z : Int32) hp1, bHk 84 bTT hp1 → bFr [(66, 7), (66, 21)] hp hp1 → ((0 ≤ x.toInt ∧ x.toInt ≤ rN hp 66 21 ∧ rN hp1 66 21 = x.toInt ∧ z.toInt = 1) ∨ ((x.toInt < 0 ∨ rN hp 66 21 < x.toInt) ∧ rN hp1 66 21 = rN hp 66 21 ∧ z.toInt = 0)) → R (.inl (some (.int z))) hp1) : xK (d + 1) 240 [.ref 66, .int x] hp R := by
  have b1 := b21 hH
  have m1 := aMin x
  have m2 := aMax x
  refine xin (M := am_m240) rfl rfl rfl ?_
  refine xald 1 ⟨u240, _, rfl⟩ rfl rfl ?_
  refine xcst 2 (0) ⟨u240, _, rfl⟩ rfl (by decide) (fun z1 h1 => ?_)
  refine xputI 5 hH ⟨u240, _, rfl⟩ rfl rfl ⟨rfl, rfl⟩ (by omega) (by omega) (fun hp2 hH2 U2 => ?_)
  have n2 : rN hp2 66 21 = rN hp 66 21 := rU_ne U2 (by omega)
  refine xild 6 ⟨u240, _, rfl⟩ rfl rfl ?_
  refine xcst 7 (0) ⟨u240, _, rfl⟩ rfl (by decide) (fun z6 h6 => ?_)
  refine xald 8 ⟨u240, _, rfl⟩ rfl rfl ?_
  refine xgetI 11 hH2 ⟨u240, _, rfl⟩ rfl rfl (fun z8 h8 => ?_)
  refine xcallS 14 [.int _, .int _, .int _] [] hH2 ⟨u240, _, rfl⟩ rfl rfl rfl rfl rfl (k_inr (fun z11 h11 => ⟨_, rfl, ?_⟩))
  refine xif_ne 17 ⟨u240, _, rfl⟩ rfl (fun c14 => ?_) (fun c14 => ?_)
  · refine xald 20 ⟨u240, _, rfl⟩ rfl rfl ?_
    refine xild 21 ⟨u240, _, rfl⟩ rfl rfl ?_
    refine xputI 24 hH2 ⟨u240, _, rfl⟩ rfl rfl ⟨rfl, rfl⟩ (by omega) (by omega) (fun hp21 hH21 U21 => ?_)
    have s21 := U21.1
    refine xcst 25 (1) ⟨u240, _, rfl⟩ rfl (by decide) (fun z24 h24 => ?_)
    exact xretB ⟨u240, _, rfl⟩ rfl (by omega) (hR _ hp21 hH21 ((rU_fr U2 (by decide)).trans (rU_fr U21 (by decide))) (Or.inl ⟨by omega, by omega, by omega, by omega⟩))
  · refine xcst 18 (0) ⟨u240, _, rfl⟩ rfl (by decide) (fun z17 h17 => ?_)
    exact xretB ⟨u240, _, rfl⟩ rfl (by omega) (hR _ hp2 hH2 (rU_fr U2 (by decide)) (Or.inr ⟨by omega, by omega, by omega⟩))
end
