/-! ===== independent on both sides ===== -/
/-- a triple of the first t lies in a set -/
def inB (T : sT) (m t : Nat) : Prop := ∃ s, s < t ∧ mN T s &&& m = mN T s
theorem inB_s {T : sT} {m t : Nat} (h : ¬ inB T m t) (h2 : ¬ mN T t &&& m = mN T t) : ¬ inB T m (t + 1) := fun ⟨s, hs, e⟩ => by
  by_cases g : s = t
  · rw [g] at e; exact h2 e
  · exact h ⟨s, by omega, e⟩
theorem nd_zero {a b : Nat} : ndif a b = 0 ↔ a &&& b = a := by
  constructor
  · intro h
    apply Nat.eq_of_testBit_eq
    intro i
    have k := nd_test a b i
    rw [h, Nat.zero_testBit] at k
    rw [Nat.testBit_and]
    cases g : a.testBit i <;> cases g2 : b.testBit i <;> simp_all
  · intro h
    apply Nat.eq_of_testBit_eq
    intro i
    have k := congrArg (fun n => n.testBit i) h
    dsimp only at k
    rw [Nat.testBit_and] at k
    rw [nd_test, Nat.zero_testBit]
    cases g : a.testBit i <;> cases g2 : b.testBit i <;> simp_all
/-- the best of the first sets: the most points, no triple in it -/
noncomputable def inF (V : Nat) (T : sT) : Nat → Nat
  | 0 => 0
  | n + 1 => by
    classical
    exact if bcN (inF V T n) < bcN n ∧ ¬ inB T n (trL T 225).length then n else inF V T n
theorem inF_1 {V : Nat} {T : sT} {n : Nat} (h : bcN (inF V T n) < bcN n ∧ ¬ inB T n (trL T 225).length) : inF V T (n + 1) = n := by
  classical
  show (if _ then _ else _) = _
  exact if_pos h
theorem inF_0 {V : Nat} {T : sT} {n : Nat} (h : ¬ (bcN (inF V T n) < bcN n ∧ ¬ inB T n (trL T 225).length)) : inF V T (n + 1) = inF V T n := by
  classical
  show (if _ then _ else _) = _
  exact if_neg h
theorem inF_lt {V : Nat} {T : sT} : ∀ n, inF V T n < n + 1
  | 0 => Nat.lt_succ_self 0
  | n + 1 => by
    have h := inF_lt (V := V) (T := T) n
    by_cases g : bcN (inF V T n) < bcN n ∧ ¬ inB T n (trL T 225).length
    · rw [inF_1 g]; omega
    · rw [inF_0 g]; omega
theorem bcN_0 : bcN 0 = 0 := by decide +kernel
theorem inF_b {V : Nat} {T : sT} : inF V T 1 = 0 := inF_0 (fun z => by have := z.1; rw [show inF V T 0 = 0 from rfl] at this; omega)
theorem u34 : bUp 0 am_m34.1 = true := by decide +kernel
theorem u330 : bUp 0 am_m330.1 = true := by decide +kernel
theorem l34E {d m V : Nat} {T : sT} {hp : amH} {R : xQ} {s : Int32} (hH : bHk 84 bTT hp) (hL : lsN hp 3 T 225) (hT : sOk V T) (hs : s.toInt = (m : Int)) (hm : m < 32768)
    (hR : ∀ z : Int32, ((z.toInt = 1 ∧ inB T m (trL T 225).length) ∨ (z.toInt = 0 ∧ ¬ inB T m (trL T 225).length)) → R (.inl (some (.int z))) hp) :
    ∀ (jj t : Nat) (wt : Int32), wt.toInt = (t : Int) → t + jj = (trL T 225).length → ¬ inB T m t → xV (d + 1) am_m34 2 [some (.ref 3), some (.int s), some (.int wt)] [] hp R := by
  have l35 := trL_35 hT 225
  have L1 := hL.1
  intro jj
  induction jj with
  | zero =>
    intro t wt hwt hj hc
    have et : (trL T 225).length = t := by omega
    refine xild 3 ⟨u34, _, rfl⟩ rfl rfl ?_
    refine xald 4 ⟨u34, _, rfl⟩ rfl rfl ?_
    refine xgetC 7 hH ⟨u34, _, rfl⟩ rfl (by decide) (by decide) rfl rfl (by decide) (fun z4 h4 => ?_)
    refine xcmp_ge 10 ⟨u34, _, rfl⟩ rfl (fun c7 => ?_) (fun c7 => ?_)
    · refine xcst 31 (0) ⟨u34, _, rfl⟩ rfl (by decide) (fun z30 h30 => ?_)
      exact xretB ⟨u34, _, rfl⟩ rfl (by omega) (hR _ (Or.inr ⟨by omega, by rw [et]; exact hc⟩))
    · omega
  | succ jj ih =>
    intro t wt hwt hj hc
    have ml := (mN_lt hT (show t < (trL T 225).length by omega)).1
    refine xild 3 ⟨u34, _, rfl⟩ rfl rfl ?_
    refine xald 4 ⟨u34, _, rfl⟩ rfl rfl ?_
    refine xgetC 7 hH ⟨u34, _, rfl⟩ rfl (by decide) (by decide) rfl rfl (by decide) (fun z4 h4 => ?_)
    refine xcmp_ge 10 ⟨u34, _, rfl⟩ rfl (fun c7 => ?_) (fun c7 => ?_)
    · omega
    · refine xald 11 ⟨u34, _, rfl⟩ rfl rfl ?_
      refine xild 12 ⟨u34, _, rfl⟩ rfl rfl ?_
      refine xcallC 15 (o := 3) [.int _] [] hH ⟨u34, _, rfl⟩ rfl rfl (by decide) rfl (by decide) rfl ⟨rfl, rfl, rfl, rfl⟩ rfl (k_setL hH hL (t := t) hwt (by omega) (fun z12 h12 => ⟨_, rfl, ?_⟩))
      refine xild 16 ⟨u34, _, rfl⟩ rfl rfl ?_
      refine xcst 17 (-1) ⟨u34, _, rfl⟩ rfl (by decide) (fun z16 h16 => ?_)
      refine xxor 18 ⟨u34, _, rfl⟩ rfl ?_
      refine xand 19 ⟨u34, _, rfl⟩ rfl ?_
      have e18 := i_nd h12 hs ml (by omega) h16
      refine xif_ne 22 ⟨u34, _, rfl⟩ rfl (fun c19 => ?_) (fun c19 => ?_)
      · refine xinc 27 (1) ⟨u34, _, rfl⟩ rfl rfl rfl (by decide) (by omega) (by omega) (fun z24 h24 => ?_)
        refine xgoto ⟨u34, _, rfl⟩ ?_
        exact ih (t + 1) _ (by omega) (by omega) (inB_s hc (fun z => by have z := nd_zero.mpr z; omega))
      · refine xcst 23 (1) ⟨u34, _, rfl⟩ rfl (by decide) (fun z22 h22 => ?_)
        exact xretB ⟨u34, _, rfl⟩ rfl (by omega) (hR _ (Or.inl ⟨by omega, t, by omega, nd_zero.mp (by omega)⟩))
theorem k_34E {d m V : Nat} {T : sT} {hp : amH} {R : xQ} {s : Int32} (hH : bHk 84 bTT hp) (hL : lsN hp 3 T 225) (hT : sOk V T) (hs : s.toInt = (m : Int)) (hm : m < 32768)
    (hR : ∀ z : Int32, ((z.toInt = 1 ∧ inB T m (trL T 225).length) ∨ (z.toInt = 0 ∧ ¬ inB T m (trL T 225).length)) → R (.inl (some (.int z))) hp) : xK (d + 1) 34 [.ref 3, .int s] hp R := by
  refine xin (M := am_m34) rfl rfl rfl ?_
  refine xcst 1 (0) ⟨u34, _, rfl⟩ rfl (by decide) (fun z0 h0 => ?_)
  refine xist 2 ⟨u34, _, rfl⟩ rfl rfl ?_
  exact l34E hH hL hT hs hm hR (trL T 225).length 0 _ h0 (by omega) (fun ⟨s, hs, _⟩ => absurd hs (Nat.not_lt_zero s))
theorem l330E {d m V : Nat} {T : sT} {hp : amH} {R : xQ} {s : Int32} (hH : bHk 84 bTT hp) (hL : rlN hp T 225) (hT : sOk V T) (hs : s.toInt = (m : Int)) (hm : m < 32768)
    (hR : ∀ z : Int32, ((z.toInt = 0 ∧ inB T m (trL T 225).length) ∨ (z.toInt = 1 ∧ ¬ inB T m (trL T 225).length)) → R (.inl (some (.int z))) hp) :
    ∀ (jj t : Nat) (wt : Int32), wt.toInt = (t : Int) → t + jj = (trL T 225).length → ¬ inB T m t → xV (d + 1) am_m330 2 [some (.ref 66), some (.int s), some (.int wt)] [] hp R := by
  have l35 := trL_35 hT 225
  have L1 := hL.1
  intro jj
  induction jj with
  | zero =>
    intro t wt hwt hj hc
    have et : (trL T 225).length = t := by omega
    refine xild 3 ⟨u330, _, rfl⟩ rfl rfl ?_
    refine xald 4 ⟨u330, _, rfl⟩ rfl rfl ?_
    refine xgetI 7 hH ⟨u330, _, rfl⟩ rfl rfl (fun z4 h4 => ?_)
    refine xcmp_ge 10 ⟨u330, _, rfl⟩ rfl (fun c7 => ?_) (fun c7 => ?_)
    · refine xcst 36 (1) ⟨u330, _, rfl⟩ rfl (by decide) (fun z35 h35 => ?_)
      exact xretB ⟨u330, _, rfl⟩ rfl (by omega) (hR _ (Or.inr ⟨by omega, by rw [et]; exact hc⟩))
    · omega
  | succ jj ih =>
    intro t wt hwt hj hc
    have ml := (mN_lt hT (show t < (trL T 225).length by omega)).1
    have Lt := (hL.2 t (by omega)).2.2.2
    refine xild 3 ⟨u330, _, rfl⟩ rfl rfl ?_
    refine xald 4 ⟨u330, _, rfl⟩ rfl rfl ?_
    refine xgetI 7 hH ⟨u330, _, rfl⟩ rfl rfl (fun z4 h4 => ?_)
    refine xcmp_ge 10 ⟨u330, _, rfl⟩ rfl (fun c7 => ?_) (fun c7 => ?_)
    · omega
    · refine xald 11 ⟨u330, _, rfl⟩ rfl rfl ?_
      refine xgetR 14 75 hH ⟨u330, _, rfl⟩ rfl rfl ?_
      refine xild 15 ⟨u330, _, rfl⟩ rfl rfl ?_
      refine xiald 16 (wt).toInt.toNat hH ⟨u330, _, rfl⟩ rfl (by decide) rfl (by omega) (by omega) (fun z15 h15 => ?_)
      refine xild 17 ⟨u330, _, rfl⟩ rfl rfl ?_
      refine xand 18 ⟨u330, _, rfl⟩ rfl ?_
      refine xald 19 ⟨u330, _, rfl⟩ rfl rfl ?_
      refine xgetR 22 75 hH ⟨u330, _, rfl⟩ rfl rfl ?_
      refine xild 23 ⟨u330, _, rfl⟩ rfl rfl ?_
      refine xiald 24 (wt).toInt.toNat hH ⟨u330, _, rfl⟩ rfl (by decide) rfl (by omega) (by omega) (fun z23 h23 => ?_)
      have e15 : z15.toInt = ((mN T t : Nat) : Int) := by rw [h15, show wt.toInt.toNat = t by omega]; exact Lt
      have e23 : z23.toInt = ((mN T t : Nat) : Int) := by rw [h23, show wt.toInt.toNat = t by omega]; exact Lt
      have e17 := (i_and e15 hs ml).1
      refine xcmp_ne 27 ⟨u330, _, rfl⟩ rfl (fun c24 => ?_) (fun c24 => ?_)
      · refine xinc 32 (1) ⟨u330, _, rfl⟩ rfl rfl rfl (by decide) (by omega) (by omega) (fun z29 h29 => ?_)
        refine xgoto ⟨u330, _, rfl⟩ ?_
        exact ih (t + 1) _ (by omega) (by omega) (inB_s hc (fun z => by omega))
      · refine xcst 28 (0) ⟨u330, _, rfl⟩ rfl (by decide) (fun z27 h27 => ?_)
        exact xretB ⟨u330, _, rfl⟩ rfl (by omega) (hR _ (Or.inl ⟨by omega, t, by omega, by omega⟩))
theorem k_330E {d m V : Nat} {T : sT} {hp : amH} {R : xQ} {s : Int32} (hH : bHk 84 bTT hp) (hL : rlN hp T 225) (hT : sOk V T) (hs : s.toInt = (m : Int)) (hm : m < 32768)
    (hR : ∀ z : Int32, ((z.toInt = 0 ∧ inB T m (trL T 225).length) ∨ (z.toInt = 1 ∧ ¬ inB T m (trL T 225).length)) → R (.inl (some (.int z))) hp) : xK (d + 1) 330 [.ref 66, .int s] hp R := by
  refine xin (M := am_m330) rfl rfl rfl ?_
  refine xcst 1 (0) ⟨u330, _, rfl⟩ rfl (by decide) (fun z0 h0 => ?_)
  refine xist 2 ⟨u330, _, rfl⟩ rfl rfl ?_
  exact l330E hH hL hT hs hm hR (trL T 225).length 0 _ h0 (by omega) (fun ⟨s, hs, _⟩ => absurd hs (Nat.not_lt_zero s))
theorem u164 : bUp 0 am_m164.1 = true := by decide +kernel
theorem l164E {d V : Nat} {T : sT} {hp : amH} {R : xQ} {wa : Int32} (hH : bHk 84 bTT hp) (hL : lsN hp 3 T 225) (hT : sOk V T) (hwa : wa.toInt = ((2 ^ V - 1 : Nat) : Int)) (h2V : 2 ^ V ≤ 32768) (p2 : 0 < 2 ^ V)
    (hR : ∀ z : Int32, z.toInt = ((inF V T (2 ^ V) : Nat) : Int) → R (.inl (some (.int z))) hp) :
    ∀ (jj t : Nat) (w wt : Int32), wt.toInt = (t : Int) → t + jj = 2 ^ V → w.toInt = ((inF V T t : Nat) : Int) → xV (d + 4) am_m164 12 [some (.ref 0), some (.int wa), some (.int w), some (.int wt)] [] hp R := by
  intro jj
  induction jj with
  | zero =>
    intro t w wt hwt hj hw
    have et : t = 2 ^ V := by omega
    rw [et] at hw
    refine xild 13 ⟨u164, _, rfl⟩ rfl rfl ?_
    refine xild 14 ⟨u164, _, rfl⟩ rfl rfl ?_
    refine xcmp_gt 17 ⟨u164, _, rfl⟩ rfl (fun c14 => ?_) (fun c14 => ?_)
    · refine xild 48 ⟨u164, _, rfl⟩ rfl rfl ?_
      exact xret ⟨u164, _, rfl⟩ rfl (hR _ hw)
    · omega
  | succ jj ih =>
    intro t w wt hwt hj hw
    have k2 := inF_lt (V := V) (T := T) t
    refine xild 13 ⟨u164, _, rfl⟩ rfl rfl ?_
    refine xild 14 ⟨u164, _, rfl⟩ rfl rfl ?_
    refine xcmp_gt 17 ⟨u164, _, rfl⟩ rfl (fun c14 => ?_) (fun c14 => ?_)
    · omega
    · refine xild 18 ⟨u164, _, rfl⟩ rfl rfl ?_
      refine xcallS 21 [.int _] [] hH ⟨u164, _, rfl⟩ rfl rfl rfl rfl rfl (k_bc hwt (fun z18 h18 => ⟨_, rfl, ?_⟩))
      refine xild 22 ⟨u164, _, rfl⟩ rfl rfl ?_
      refine xcallS 25 [.int _] [.int _] hH ⟨u164, _, rfl⟩ rfl rfl rfl rfl rfl (k_bc hw (fun z22 h22 => ⟨_, rfl, ?_⟩))
      refine xcmp_le 28 ⟨u164, _, rfl⟩ rfl (fun c25 => ?_) (fun c25 => ?_)
      · refine xinc 44 (1) ⟨u164, _, rfl⟩ rfl rfl rfl (by decide) (by omega) (by omega) (fun z41 h41 => ?_)
        refine xgoto ⟨u164, _, rfl⟩ ?_
        exact ih (t + 1) _ _ (by omega) (by omega) (by rw [inF_0 (fun z => by have := z.1; omega)]; exact hw)
      · refine xald 29 ⟨u164, _, rfl⟩ rfl rfl ?_
        refine xgetD 32 (3) hH ⟨u164, _, rfl⟩ rfl (by decide) (by decide) rfl rfl (by decide) ?_
        refine xild 33 ⟨u164, _, rfl⟩ rfl rfl ?_
        refine xcallC 36 (o := 3) [.int _] [] hH ⟨u164, _, rfl⟩ rfl rfl (by decide) rfl (by decide) rfl ⟨rfl, rfl, rfl, rfl⟩ rfl (k_34E hH hL hT hwt (by omega) (fun z33 h33 => ⟨_, rfl, ?_⟩))
        refine xif_ne 39 ⟨u164, _, rfl⟩ rfl (fun c36 => ?_) (fun c36 => ?_)
        · refine xinc 44 (1) ⟨u164, _, rfl⟩ rfl rfl rfl (by decide) (by omega) (by omega) (fun z41 h41 => ?_)
          refine xgoto ⟨u164, _, rfl⟩ ?_
          have c9 : inB T t (trL T 225).length := by
            rcases h33 with ⟨-, q⟩ | ⟨q, -⟩
            · exact q
            · omega
          exact ih (t + 1) _ _ (by omega) (by omega) (by rw [inF_0 (fun z => z.2 c9)]; exact hw)
        · refine xild 40 ⟨u164, _, rfl⟩ rfl rfl ?_
          refine xist 41 ⟨u164, _, rfl⟩ rfl rfl ?_
          refine xinc 44 (1) ⟨u164, _, rfl⟩ rfl rfl rfl (by decide) (by omega) (by omega) (fun z41 h41 => ?_)
          refine xgoto ⟨u164, _, rfl⟩ ?_
          have c9 : ¬ inB T t (trL T 225).length := by
            rcases h33 with ⟨q, -⟩ | ⟨-, q⟩
            · omega
            · exact q
          exact ih (t + 1) _ _ (by omega) (by omega) (by rw [inF_1 ⟨by omega, c9⟩]; omega)
theorem k_164E {d V n : Nat} {h : Nat → sR} {sv : Option sR} {T : sT} {ty : Nat → Int} {hp : amH} {R : xQ} (hH : bHk 84 bTT hp) (hS : clS hp (V, T, ty) n h sv)
    (hR : ∀ (z : Int32) hp1, bHk 84 bTT hp1 → cF hp hp1 → clS hp1 (V, T, ty) n h sv → z.toInt = ((inF V T (2 ^ V) : Nat) : Int) → R (.inl (some (.int z))) hp1) : xK (d + 5) 164 [.ref 0] hp R := by
  have hB : bdOk hp 3 V T := hS.1
  have b0 : rN hp 3 0 = (V : Int) := hB.1
  have hL : lsN hp 3 T 225 := hS.2.1
  have b1 : rN hp 3 1 = (((trL T 225).length : Nat) : Int) := hL.1
  have hT0 : sOk V T := hB.2.1
  have h15 : V ≤ 15 := hT0.2.1
  have l35 : (trL T 225).length ≤ 35 := trL_35 hT0 225
  have h2V : 2 ^ V ≤ 32768 := Nat.pow_le_pow_right (by decide) h15
  have p2 := Nat.two_pow_pos V
  refine xin (M := am_m164) rfl rfl rfl ?_
  refine xald 1 ⟨u164, _, rfl⟩ rfl rfl ?_
  refine xgetD 4 (3) hH ⟨u164, _, rfl⟩ rfl (by decide) (by decide) rfl rfl (by decide) ?_
  refine xcallC 7 (o := 3) [] [] hH ⟨u164, _, rfl⟩ rfl rfl (by decide) rfl (by decide) rfl ⟨rfl, rfl, rfl, rfl⟩ rfl (k_all (o := 3) (Or.inl rfl) hH b0 (fun z4 h4 => ⟨_, rfl, ?_⟩))
  refine xist 8 ⟨u164, _, rfl⟩ rfl rfl ?_
  refine xcst 9 (0) ⟨u164, _, rfl⟩ rfl (by decide) (fun z8 h8 => ?_)
  refine xist 10 ⟨u164, _, rfl⟩ rfl rfl ?_
  refine xcst 11 (0) ⟨u164, _, rfl⟩ rfl (by decide) (fun z10 h10 => ?_)
  refine xist 12 ⟨u164, _, rfl⟩ rfl rfl ?_
  exact l164E hH hL hT0 h4 h2V p2 (fun z e => hR z hp hH cF.refl hS e) (2 ^ V) 0 _ _ h10 (by omega) h8
theorem u331 : bUp 0 am_m331.1 = true := by decide +kernel
theorem l331E {d V : Nat} {T : sT} {hp : amH} {R : xQ} (hH : bHk 84 bTT hp) (hB : rdOk hp V T) (hL : rlN hp T 225) (h2V : 2 ^ V ≤ 32768)
    (hR : ∀ z : Int32, z.toInt = ((inF V T (2 ^ V) : Nat) : Int) → R (.inl (some (.int z))) hp) :
    ∀ (jj t : Nat) (w wt : Int32), wt.toInt = (t : Int) → t + jj = 2 ^ V → w.toInt = ((inF V T t : Nat) : Int) → xV (d + 3) am_m331 13 [some (.ref 66), some (.int w), some (.int wt)] [] hp R := by
  have hT := hB.2.1
  have h15 := hT.2.1
  have b0 : rN hp 67 0 = (V : Int) := hB.1
  have p2 := Nat.two_pow_pos V
  intro jj
  induction jj with
  | zero =>
    intro t w wt hwt hj hw
    have et : t = 2 ^ V := by omega
    rw [et] at hw
    refine xild 14 ⟨u331, _, rfl⟩ rfl rfl ?_
    refine xcst 15 (1) ⟨u331, _, rfl⟩ rfl (by decide) (fun z14 h14 => ?_)
    refine xald 16 ⟨u331, _, rfl⟩ rfl rfl ?_
    refine xcall 19 [.ref 66] [.int _, .int _] hH ⟨u331, _, rfl⟩ rfl rfl rfl rfl rfl (k_points hH (fun z16 h16 => ⟨_, rfl, ?_⟩))
    refine xshl 20 ⟨u331, _, rfl⟩ rfl ?_
    have sV := i_shlV h14 (h16.trans b0) (by omega)
    refine xcmp_ge 23 ⟨u331, _, rfl⟩ rfl (fun c20 => ?_) (fun c20 => ?_)
    · refine xild 51 ⟨u331, _, rfl⟩ rfl rfl ?_
      exact xret ⟨u331, _, rfl⟩ rfl (hR _ hw)
    · omega
  | succ jj ih =>
    intro t w wt hwt hj hw
    have k2 := inF_lt (V := V) (T := T) t
    refine xild 14 ⟨u331, _, rfl⟩ rfl rfl ?_
    refine xcst 15 (1) ⟨u331, _, rfl⟩ rfl (by decide) (fun z14 h14 => ?_)
    refine xald 16 ⟨u331, _, rfl⟩ rfl rfl ?_
    refine xcall 19 [.ref 66] [.int _, .int _] hH ⟨u331, _, rfl⟩ rfl rfl rfl rfl rfl (k_points hH (fun z16 h16 => ⟨_, rfl, ?_⟩))
    refine xshl 20 ⟨u331, _, rfl⟩ rfl ?_
    have sV := i_shlV h14 (h16.trans b0) (by omega)
    refine xcmp_ge 23 ⟨u331, _, rfl⟩ rfl (fun c20 => ?_) (fun c20 => ?_)
    · omega
    · refine xild 24 ⟨u331, _, rfl⟩ rfl rfl ?_
      refine xcallS 27 [.int _] [] hH ⟨u331, _, rfl⟩ rfl rfl rfl rfl rfl (k_bc hwt (fun z24 h24 => ⟨_, rfl, ?_⟩))
      refine xild 28 ⟨u331, _, rfl⟩ rfl rfl ?_
      refine xcallS 31 [.int _] [.int _] hH ⟨u331, _, rfl⟩ rfl rfl rfl rfl rfl (k_bc hw (fun z28 h28 => ⟨_, rfl, ?_⟩))
      refine xcmp_le 34 ⟨u331, _, rfl⟩ rfl (fun c31 => ?_) (fun c31 => ?_)
      · refine xinc 47 (1) ⟨u331, _, rfl⟩ rfl rfl rfl (by decide) (by omega) (by omega) (fun z44 h44 => ?_)
        refine xgoto ⟨u331, _, rfl⟩ ?_
        exact ih (t + 1) _ _ (by omega) (by omega) (by rw [inF_0 (fun z => by have := z.1; omega)]; exact hw)
      · refine xald 35 ⟨u331, _, rfl⟩ rfl rfl ?_
        refine xild 36 ⟨u331, _, rfl⟩ rfl rfl ?_
        refine xcall 39 [.ref 66, .int _] [] hH ⟨u331, _, rfl⟩ rfl rfl rfl rfl rfl (k_330E hH hL hT hwt (by omega) (fun z36 h36 => ⟨_, rfl, ?_⟩))
        refine xif_eq 42 ⟨u331, _, rfl⟩ rfl (fun c39 => ?_) (fun c39 => ?_)
        · refine xinc 47 (1) ⟨u331, _, rfl⟩ rfl rfl rfl (by decide) (by omega) (by omega) (fun z44 h44 => ?_)
          refine xgoto ⟨u331, _, rfl⟩ ?_
          have c9 : inB T t (trL T 225).length := by
            rcases h36 with ⟨-, q⟩ | ⟨q, -⟩
            · exact q
            · omega
          exact ih (t + 1) _ _ (by omega) (by omega) (by rw [inF_0 (fun z => z.2 c9)]; exact hw)
        · refine xild 43 ⟨u331, _, rfl⟩ rfl rfl ?_
          refine xist 44 ⟨u331, _, rfl⟩ rfl rfl ?_
          refine xinc 47 (1) ⟨u331, _, rfl⟩ rfl rfl rfl (by decide) (by omega) (by omega) (fun z44 h44 => ?_)
          refine xgoto ⟨u331, _, rfl⟩ ?_
          have c9 : ¬ inB T t (trL T 225).length := by
            rcases h36 with ⟨q, -⟩ | ⟨-, q⟩
            · omega
            · exact q
          exact ih (t + 1) _ _ (by omega) (by omega) (by rw [inF_1 ⟨by omega, c9⟩]; omega)
theorem k_331E {d V n : Nat} {h : Nat → sR} {sv : Option sR} {T : sT} {ty : Nat → Int} {hp : amH} {R : xQ} (hH : bHk 84 bTT hp) (hP : P0 hp) (hS : rfS hp (V, T, ty) n h sv)
    (hR : ∀ (z : Int32) hp1, bHk 84 bTT hp1 → P0 hp1 → bFr wM hp hp1 → rfS hp1 (V, T, ty) n h sv → z.toInt = ((inF V T (2 ^ V) : Nat) : Int) → R (.inl (some (.int z))) hp1) : xK (d + 4) 331 [.ref 66] hp R := by
  have hB : rdOk hp V T := rowOk_rd hS.1
  have b0 : rN hp 67 0 = (V : Int) := hB.1
  have hT0 : sOk V T := hB.2.1
  have h15 : V ≤ 15 := hT0.2.1
  have l35 : (trL T 225).length ≤ 35 := trL_35 hT0 225
  have h2V : 2 ^ V ≤ 32768 := Nat.pow_le_pow_right (by decide) h15
  have p2 := Nat.two_pow_pos V
  refine xin (M := am_m331) rfl rfl rfl ?_
  refine xald 1 ⟨u331, _, rfl⟩ rfl rfl ?_
  refine xcst 2 (0) ⟨u331, _, rfl⟩ rfl (by decide) (fun z1 h1 => ?_)
  refine xputI 5 hH ⟨u331, _, rfl⟩ rfl rfl ⟨rfl, rfl⟩ (by omega) (by omega) (fun hp2 hH2 U2 => ?_)
  have s2 := U2.1
  have S2 := rfS_W (W := [(66, 7)]) hS (rU_fr U2 rfl) (fun _ => rfl) rfl rfl (fun _ => rfl) (fun _ => rfl)
  have P2 := P0_W (W := [(66, 7)]) (by decide) (rU_fr U2 rfl) hP
  refine xald 6 ⟨u331, _, rfl⟩ rfl rfl ?_
  refine xcall 9 [.ref 66] [] hH2 ⟨u331, _, rfl⟩ rfl rfl rfl rfl rfl (k_rlst hH2 (V := V) (T := T) (rowOk_rd S2.1) (fun hp6 hH6 F6 B6 L6 => ⟨_, rfl, ?_⟩))
  have S6 := rfS_W S2 F6 (fun _ => rfl) rfl rfl (fun _ => rfl) (fun _ => rfl)
  have P6 : P0 hp6 := P0_W (W := bLT) (by decide) F6 P2
  refine xcst 10 (0) ⟨u331, _, rfl⟩ rfl (by decide) (fun z9 h9 => ?_)
  refine xist 11 ⟨u331, _, rfl⟩ rfl rfl ?_
  refine xcst 12 (1) ⟨u331, _, rfl⟩ rfl (by decide) (fun z11 h11 => ?_)
  refine xist 13 ⟨u331, _, rfl⟩ rfl rfl ?_
  exact l331E hH6 B6 L6 h2V (fun z e => hR z hp6 hH6 P6 ((rU_fr U2 (by decide)).trans (bFr_sub F6 (by decide))) S6 e) (2 ^ V - 1) 1 _ _ h11 (by omega) (by rw [inF_b]; exact h9)
