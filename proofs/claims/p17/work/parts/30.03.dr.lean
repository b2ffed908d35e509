/-! ##### q52 ##### -/
section
/-! ===== subsystems on both sides ===== -/
/-- no triple of the first t has two points of a set and not the third -/
def clB (T : sT) (m t : Nat) : Prop := ∀ s, s < t → ¬ bcN (mN T s &&& m) = 2
theorem clB_s {T : sT} {m t : Nat} (h : clB T m t) (h2 : ¬ bcN (mN T t &&& m) = 2) : clB T m (t + 1) := fun s hs => by
  by_cases e : s = t
  · rw [e]; exact h2
  · exact h s (by omega)
noncomputable def sbP (V : Nat) (T : sT) (m : Nat) : Nat := by
  classical
  exact if 3 < bcN m ∧ clB T m (trL T 225).length then 1 else 0
/-- how many of the first sets are subsystems -/
noncomputable def sbC (V : Nat) (T : sT) (n : Nat) : Nat := sm (sbP V T) n
theorem sbP_1 {V : Nat} {T : sT} {m : Nat} (h : 3 < bcN m ∧ clB T m (trL T 225).length) : sbP V T m = 1 := by
  classical
  unfold sbP
  exact if_pos h
theorem sbP_0 {V : Nat} {T : sT} {m : Nat} (h : ¬ (3 < bcN m ∧ clB T m (trL T 225).length)) : sbP V T m = 0 := by
  classical
  unfold sbP
  exact if_neg h
theorem sbP_le {V : Nat} {T : sT} {m : Nat} : sbP V T m ≤ 1 := by
  classical
  unfold sbP
  split <;> omega
theorem sbC_s {V : Nat} {T : sT} {n : Nat} : sbC V T (n + 1) = sbC V T n + sbP V T n := rfl
theorem sbC_le {V : Nat} {T : sT} : ∀ n, sbC V T n ≤ n
  | 0 => Nat.le_refl _
  | n + 1 => by
    have h1 := sbC_le (V := V) (T := T) n
    have h2 := sbP_le (V := V) (T := T) (m := n)
    rw [sbC_s]
    omega
theorem u32 : bUp 0 am_m32.1 = true := by decide +kernel
theorem u328 : bUp 0 am_m328.1 = true := by decide +kernel
theorem l32E {d m V : Nat} {T : sT} {hp : amH} {R : xQ} {s : Int32} (hH : bHk 84 bTT hp) (hL : lsN hp 3 T 225) (hT : sOk V T) (hs : s.toInt = (m : Int)) (hm : m < 32768)
    (hR : ∀ z : Int32, ((z.toInt = 1 ∧ clB T m (trL T 225).length) ∨ (z.toInt = 0 ∧ ¬ clB T m (trL T 225).length)) → R (.inl (some (.int z))) hp) :
    ∀ (jj t : Nat) (wt : Int32), wt.toInt = (t : Int) → t + jj = (trL T 225).length → clB T m t → xV (d + 1) am_m32 2 [some (.ref 3), some (.int s), some (.int wt)] [] hp R := by
  have l35 := trL_35 hT 225
  have L1 := hL.1
  intro jj
  induction jj with
  | zero =>
    intro t wt hwt hj hc
    have et : (trL T 225).length = t := by omega
    refine xild 3 ⟨u32, _, rfl⟩ rfl rfl ?_
    refine xald 4 ⟨u32, _, rfl⟩ rfl rfl ?_
    refine xgetC 7 hH ⟨u32, _, rfl⟩ rfl (by decide) (by decide) rfl rfl (by decide) (fun z4 h4 => ?_)
    refine xcmp_ge 10 ⟨u32, _, rfl⟩ rfl (fun c7 => ?_) (fun c7 => ?_)
    · refine xcst 33 (1) ⟨u32, _, rfl⟩ rfl (by decide) (fun z32 h32 => ?_)
      exact xretB ⟨u32, _, rfl⟩ rfl (by omega) (hR _ (Or.inl ⟨by omega, by rw [et]; exact hc⟩))
    · omega
  | succ jj ih =>
    intro t wt hwt hj hc
    have ml := (mN_lt hT (show t < (trL T 225).length by omega)).1
    refine xild 3 ⟨u32, _, rfl⟩ rfl rfl ?_
    refine xald 4 ⟨u32, _, rfl⟩ rfl rfl ?_
    refine xgetC 7 hH ⟨u32, _, rfl⟩ rfl (by decide) (by decide) rfl rfl (by decide) (fun z4 h4 => ?_)
    refine xcmp_ge 10 ⟨u32, _, rfl⟩ rfl (fun c7 => ?_) (fun c7 => ?_)
    · omega
    · refine xald 11 ⟨u32, _, rfl⟩ rfl rfl ?_
      refine xild 12 ⟨u32, _, rfl⟩ rfl rfl ?_
      refine xcallC 15 (o := 3) [.int _] [] hH ⟨u32, _, rfl⟩ rfl rfl (by decide) rfl (by decide) rfl ⟨rfl, rfl, rfl, rfl⟩ rfl (k_setL hH hL (t := t) hwt (by omega) (fun z12 h12 => ⟨_, rfl, ?_⟩))
      refine xild 16 ⟨u32, _, rfl⟩ rfl rfl ?_
      refine xand 17 ⟨u32, _, rfl⟩ rfl ?_
      refine xcallS 20 [.int _] [] hH ⟨u32, _, rfl⟩ rfl rfl rfl rfl rfl (k_bc (i_and h12 hs ml).1 (fun z17 h17 => ⟨_, rfl, ?_⟩))
      refine xcst 21 (2) ⟨u32, _, rfl⟩ rfl (by decide) (fun z20 h20 => ?_)
      refine xcmp_ne 24 ⟨u32, _, rfl⟩ rfl (fun c21 => ?_) (fun c21 => ?_)
      · refine xinc 29 (1) ⟨u32, _, rfl⟩ rfl rfl rfl (by decide) (by omega) (by omega) (fun z26 h26 => ?_)
        refine xgoto ⟨u32, _, rfl⟩ ?_
        exact ih (t + 1) _ (by omega) (by omega) (clB_s hc (by omega))
      · refine xcst 25 (0) ⟨u32, _, rfl⟩ rfl (by decide) (fun z24 h24 => ?_)
        exact xretB ⟨u32, _, rfl⟩ rfl (by omega) (hR _ (Or.inr ⟨by omega, fun z => z t (by omega) (by omega)⟩))
theorem k_32E {d m V : Nat} {T : sT} {hp : amH} {R : xQ} {s : Int32} (hH : bHk 84 bTT hp) (hL : lsN hp 3 T 225) (hT : sOk V T) (hs : s.toInt = (m : Int)) (hm : m < 32768)
    (hR : ∀ z : Int32, ((z.toInt = 1 ∧ clB T m (trL T 225).length) ∨ (z.toInt = 0 ∧ ¬ clB T m (trL T 225).length)) → R (.inl (some (.int z))) hp) : xK (d + 1) 32 [.ref 3, .int s] hp R := by
  refine xin (M := am_m32) rfl rfl rfl ?_
  refine xcst 1 (0) ⟨u32, _, rfl⟩ rfl (by decide) (fun z0 h0 => ?_)
  refine xist 2 ⟨u32, _, rfl⟩ rfl rfl ?_
  exact l32E hH hL hT hs hm hR (trL T 225).length 0 _ h0 (by omega) (fun s hs => absurd hs (Nat.not_lt_zero s))
theorem l328E {d m V : Nat} {T : sT} {hp : amH} {R : xQ} {s : Int32} (hH : bHk 84 bTT hp) (hL : rlN hp T 225) (hT : sOk V T) (hs : s.toInt = (m : Int)) (hm : m < 32768)
    (hR : ∀ z : Int32, ((z.toInt = 1 ∧ clB T m (trL T 225).length) ∨ (z.toInt = 0 ∧ ¬ clB T m (trL T 225).length)) → R (.inl (some (.int z))) hp) :
    ∀ (jj t : Nat) (wt : Int32), wt.toInt = (t : Int) → t + jj = (trL T 225).length → clB T m t → xV (d + 1) am_m328 2 [some (.ref 66), some (.int s), some (.int wt)] [] hp R := by
  have l35 := trL_35 hT 225
  have L1 := hL.1
  intro jj
  induction jj with
  | zero =>
    intro t wt hwt hj hc
    have et : (trL T 225).length = t := by omega
    refine xild 3 ⟨u328, _, rfl⟩ rfl rfl ?_
    refine xald 4 ⟨u328, _, rfl⟩ rfl rfl ?_
    refine xgetI 7 hH ⟨u328, _, rfl⟩ rfl rfl (fun z4 h4 => ?_)
    refine xcmp_ge 10 ⟨u328, _, rfl⟩ rfl (fun c7 => ?_) (fun c7 => ?_)
    · refine xcst 34 (1) ⟨u328, _, rfl⟩ rfl (by decide) (fun z33 h33 => ?_)
      exact xretB ⟨u328, _, rfl⟩ rfl (by omega) (hR _ (Or.inl ⟨by omega, by rw [et]; exact hc⟩))
    · omega
  | succ jj ih =>
    intro t wt hwt hj hc
    have ml := (mN_lt hT (show t < (trL T 225).length by omega)).1
    have Lt := (hL.2 t (by omega)).2.2.2
    refine xild 3 ⟨u328, _, rfl⟩ rfl rfl ?_
    refine xald 4 ⟨u328, _, rfl⟩ rfl rfl ?_
    refine xgetI 7 hH ⟨u328, _, rfl⟩ rfl rfl (fun z4 h4 => ?_)
    refine xcmp_ge 10 ⟨u328, _, rfl⟩ rfl (fun c7 => ?_) (fun c7 => ?_)
    · omega
    · refine xald 11 ⟨u328, _, rfl⟩ rfl rfl ?_
      refine xgetR 14 75 hH ⟨u328, _, rfl⟩ rfl rfl ?_
      refine xild 15 ⟨u328, _, rfl⟩ rfl rfl ?_
      refine xiald 16 (wt).toInt.toNat hH ⟨u328, _, rfl⟩ rfl (by decide) rfl (by omega) (by omega) (fun z15 h15 => ?_)
      refine xild 17 ⟨u328, _, rfl⟩ rfl rfl ?_
      refine xand 18 ⟨u328, _, rfl⟩ rfl ?_
      have e15 : z15.toInt = ((mN T t : Nat) : Int) := by rw [h15, show wt.toInt.toNat = t by omega]; exact Lt
      refine xcallS 21 [.int _] [] hH ⟨u328, _, rfl⟩ rfl rfl rfl rfl rfl (k_bc (i_and e15 hs ml).1 (fun z18 h18 => ⟨_, rfl, ?_⟩))
      refine xcst 22 (2) ⟨u328, _, rfl⟩ rfl (by decide) (fun z21 h21 => ?_)
      refine xcmp_ne 25 ⟨u328, _, rfl⟩ rfl (fun c22 => ?_) (fun c22 => ?_)
      · refine xinc 30 (1) ⟨u328, _, rfl⟩ rfl rfl rfl (by decide) (by omega) (by omega) (fun z27 h27 => ?_)
        refine xgoto ⟨u328, _, rfl⟩ ?_
        exact ih (t + 1) _ (by omega) (by omega) (clB_s hc (by omega))
      · refine xcst 26 (0) ⟨u328, _, rfl⟩ rfl (by decide) (fun z25 h25 => ?_)
        exact xretB ⟨u328, _, rfl⟩ rfl (by omega) (hR _ (Or.inr ⟨by omega, fun z => z t (by omega) (by omega)⟩))
theorem k_328E {d m V : Nat} {T : sT} {hp : amH} {R : xQ} {s : Int32} (hH : bHk 84 bTT hp) (hL : rlN hp T 225) (hT : sOk V T) (hs : s.toInt = (m : Int)) (hm : m < 32768)
    (hR : ∀ z : Int32, ((z.toInt = 1 ∧ clB T m (trL T 225).length) ∨ (z.toInt = 0 ∧ ¬ clB T m (trL T 225).length)) → R (.inl (some (.int z))) hp) : xK (d + 1) 328 [.ref 66, .int s] hp R := by
  refine xin (M := am_m328) rfl rfl rfl ?_
  refine xcst 1 (0) ⟨u328, _, rfl⟩ rfl (by decide) (fun z0 h0 => ?_)
  refine xist 2 ⟨u328, _, rfl⟩ rfl rfl ?_
  exact l328E hH hL hT hs hm hR (trL T 225).length 0 _ h0 (by omega) (fun s hs => absurd hs (Nat.not_lt_zero s))
theorem u163 : bUp 0 am_m163.1 = true := by decide +kernel
theorem l163E {d V : Nat} {T : sT} {hp : amH} {R : xQ} {wa : Int32} (hH : bHk 84 bTT hp) (hL : lsN hp 3 T 225) (hT : sOk V T) (hwa : wa.toInt = ((2 ^ V - 1 : Nat) : Int)) (h2V : 2 ^ V ≤ 32768)
    (hR : ∀ z : Int32, z.toInt = ((sbC V T (2 ^ V - 1) : Nat) : Int) → R (.inl (some (.int z))) hp) :
    ∀ (jj t : Nat) (w wt : Int32), wt.toInt = (t : Int) → t + jj = 2 ^ V - 1 → w.toInt = ((sbC V T t : Nat) : Int) → xV (d + 4) am_m163 12 [some (.ref 0), some (.int wa), some (.int w), some (.int wt)] [] hp R := by
  intro jj
  induction jj with
  | zero =>
    intro t w wt hwt hj hw
    have et : t = 2 ^ V - 1 := by omega
    rw [et] at hw
    refine xild 13 ⟨u163, _, rfl⟩ rfl rfl ?_
    refine xild 14 ⟨u163, _, rfl⟩ rfl rfl ?_
    refine xcmp_ge 17 ⟨u163, _, rfl⟩ rfl (fun c14 => ?_) (fun c14 => ?_)
    · refine xild 46 ⟨u163, _, rfl⟩ rfl rfl ?_
      exact xret ⟨u163, _, rfl⟩ rfl (hR _ hw)
    · omega
  | succ jj ih =>
    intro t w wt hwt hj hw
    have k2 := sbC_le (V := V) (T := T) t
    have k3 := sbC_s (V := V) (T := T) (n := t)
    refine xild 13 ⟨u163, _, rfl⟩ rfl rfl ?_
    refine xild 14 ⟨u163, _, rfl⟩ rfl rfl ?_
    refine xcmp_ge 17 ⟨u163, _, rfl⟩ rfl (fun c14 => ?_) (fun c14 => ?_)
    · omega
    · refine xild 18 ⟨u163, _, rfl⟩ rfl rfl ?_
      refine xcallS 21 [.int _] [] hH ⟨u163, _, rfl⟩ rfl rfl rfl rfl rfl (k_bc hwt (fun z18 h18 => ⟨_, rfl, ?_⟩))
      refine xcst 22 (3) ⟨u163, _, rfl⟩ rfl (by decide) (fun z21 h21 => ?_)
      refine xcmp_le 25 ⟨u163, _, rfl⟩ rfl (fun c22 => ?_) (fun c22 => ?_)
      · refine xinc 42 (1) ⟨u163, _, rfl⟩ rfl rfl rfl (by decide) (by omega) (by omega) (fun z39 h39 => ?_)
        refine xgoto ⟨u163, _, rfl⟩ ?_
        rw [sbP_0 (fun z => by have := z.1; omega)] at k3
        exact ih (t + 1) _ _ (by omega) (by omega) (by omega)
      · refine xald 26 ⟨u163, _, rfl⟩ rfl rfl ?_
        refine xgetD 29 (3) hH ⟨u163, _, rfl⟩ rfl (by decide) (by decide) rfl rfl (by decide) ?_
        refine xild 30 ⟨u163, _, rfl⟩ rfl rfl ?_
        refine xcallC 33 (o := 3) [.int _] [] hH ⟨u163, _, rfl⟩ rfl rfl (by decide) rfl (by decide) rfl ⟨rfl, rfl, rfl, rfl⟩ rfl (k_32E hH hL hT hwt (by omega) (fun z30 h30 => ⟨_, rfl, ?_⟩))
        refine xif_eq 36 ⟨u163, _, rfl⟩ rfl (fun c33 => ?_) (fun c33 => ?_)
        · refine xinc 42 (1) ⟨u163, _, rfl⟩ rfl rfl rfl (by decide) (by omega) (by omega) (fun z39 h39 => ?_)
          refine xgoto ⟨u163, _, rfl⟩ ?_
          have c9 : ¬ clB T t (trL T 225).length := by
            rcases h30 with ⟨q, -⟩ | ⟨-, q⟩
            · omega
            · exact q
          rw [sbP_0 (fun z => c9 z.2)] at k3
          exact ih (t + 1) _ _ (by omega) (by omega) (by omega)
        · refine xinc 39 (1) ⟨u163, _, rfl⟩ rfl rfl rfl (by decide) (by omega) (by omega) (fun z36 h36 => ?_)
          refine xinc 42 (1) ⟨u163, _, rfl⟩ rfl rfl rfl (by decide) (by omega) (by omega) (fun z39 h39 => ?_)
          refine xgoto ⟨u163, _, rfl⟩ ?_
          have c9 : clB T t (trL T 225).length := by
            rcases h30 with ⟨-, q⟩ | ⟨q, -⟩
            · exact q
            · omega
          rw [sbP_1 ⟨by omega, c9⟩] at k3
          exact ih (t + 1) _ _ (by omega) (by omega) (by omega)
theorem k_163E {d V n : Nat} {h : Nat → sR} {sv : Option sR} {T : sT} {ty : Nat → Int} {hp : amH} {R : xQ} (hH : bHk 84 bTT hp) (hS : clS hp (V, T, ty) n h sv)
    (hR : ∀ (z : Int32) hp1, bHk 84 bTT hp1 → cF hp hp1 → clS hp1 (V, T, ty) n h sv → z.toInt = ((sbC V T (2 ^ V - 1) : Nat) : Int) → R (.inl (some (.int z))) hp1) : xK (d + 5) 163 [.ref 0] hp R := by
  have hB : bdOk hp 3 V T := hS.1
  have b0 : rN hp 3 0 = (V : Int) := hB.1
  have hL : lsN hp 3 T 225 := hS.2.1
  have b1 : rN hp 3 1 = (((trL T 225).length : Nat) : Int) := hL.1
  have hT0 : sOk V T := hB.2.1
  have h15 : V ≤ 15 := hT0.2.1
  have l35 : (trL T 225).length ≤ 35 := trL_35 hT0 225
  have nq0 : rN hp 49 0 = ((nQ T : Nat) : Int) := hS.2.2.1.1
  have h2V : 2 ^ V ≤ 32768 := Nat.pow_le_pow_right (by decide) h15
  refine xin (M := am_m163) rfl rfl rfl ?_
  refine xald 1 ⟨u163, _, rfl⟩ rfl rfl ?_
  refine xgetD 4 (3) hH ⟨u163, _, rfl⟩ rfl (by decide) (by decide) rfl rfl (by decide) ?_
  refine xcallC 7 (o := 3) [] [] hH ⟨u163, _, rfl⟩ rfl rfl (by decide) rfl (by decide) rfl ⟨rfl, rfl, rfl, rfl⟩ rfl (k_all (o := 3) (Or.inl rfl) hH b0 (fun z4 h4 => ⟨_, rfl, ?_⟩))
  refine xist 8 ⟨u163, _, rfl⟩ rfl rfl ?_
  refine xcst 9 (0) ⟨u163, _, rfl⟩ rfl (by decide) (fun z8 h8 => ?_)
  refine xist 10 ⟨u163, _, rfl⟩ rfl rfl ?_
  refine xcst 11 (0) ⟨u163, _, rfl⟩ rfl (by decide) (fun z10 h10 => ?_)
  refine xist 12 ⟨u163, _, rfl⟩ rfl rfl ?_
  exact l163E hH hL hT0 h4 h2V (fun z e => hR z hp hH cF.refl hS e) (2 ^ V - 1) 0 _ _ h10 (by omega) h8
theorem u329 : bUp 0 am_m329.1 = true := by decide +kernel
theorem l329E {d V : Nat} {T : sT} {hp : amH} {R : xQ} (hH : bHk 84 bTT hp) (hB : rdOk hp V T) (hL : rlN hp T 225) (h2V : 2 ^ V ≤ 32768)
    (hR : ∀ z : Int32, z.toInt = ((sbC V T (2 ^ V - 1) : Nat) : Int) → R (.inl (some (.int z))) hp) :
    ∀ (jj t : Nat) (w wt : Int32), wt.toInt = (t : Int) → t + jj = 2 ^ V - 1 → w.toInt = ((sbC V T t : Nat) : Int) → xV (d + 3) am_m329 13 [some (.ref 66), some (.int w), some (.int wt)] [] hp R := by
  have hT := hB.2.1
  have h15 := hT.2.1
  have b0 : rN hp 67 0 = (V : Int) := hB.1
  have p2 := Nat.two_pow_pos V
  intro jj
  induction jj with
  | zero =>
    intro t w wt hwt hj hw
    have et : t = 2 ^ V - 1 := by omega
    rw [et] at hw
    refine xild 14 ⟨u329, _, rfl⟩ rfl rfl ?_
    refine xcst 15 (1) ⟨u329, _, rfl⟩ rfl (by decide) (fun z14 h14 => ?_)
    refine xald 16 ⟨u329, _, rfl⟩ rfl rfl ?_
    refine xcall 19 [.ref 66] [.int _, .int _] hH ⟨u329, _, rfl⟩ rfl rfl rfl rfl rfl (k_points hH (fun z16 h16 => ⟨_, rfl, ?_⟩))
    refine xshl 20 ⟨u329, _, rfl⟩ rfl ?_
    have sV := i_shlV h14 (h16.trans b0) (by omega)
    refine xcst 21 (1) ⟨u329, _, rfl⟩ rfl (by decide) (fun z20 h20 => ?_)
    refine xsub 22 _ ⟨u329, _, rfl⟩ rfl rfl (by omega) (by omega) (fun z21 h21 => ?_)
    refine xcmp_ge 25 ⟨u329, _, rfl⟩ rfl (fun c22 => ?_) (fun c22 => ?_)
    · refine xild 56 ⟨u329, _, rfl⟩ rfl rfl ?_
      exact xret ⟨u329, _, rfl⟩ rfl (hR _ hw)
    · omega
  | succ jj ih =>
    intro t w wt hwt hj hw
    have k2 := sbC_le (V := V) (T := T) t
    have k3 := sbC_s (V := V) (T := T) (n := t)
    refine xild 14 ⟨u329, _, rfl⟩ rfl rfl ?_
    refine xcst 15 (1) ⟨u329, _, rfl⟩ rfl (by decide) (fun z14 h14 => ?_)
    refine xald 16 ⟨u329, _, rfl⟩ rfl rfl ?_
    refine xcall 19 [.ref 66] [.int _, .int _] hH ⟨u329, _, rfl⟩ rfl rfl rfl rfl rfl (k_points hH (fun z16 h16 => ⟨_, rfl, ?_⟩))
    refine xshl 20 ⟨u329, _, rfl⟩ rfl ?_
    have sV := i_shlV h14 (h16.trans b0) (by omega)
    refine xcst 21 (1) ⟨u329, _, rfl⟩ rfl (by decide) (fun z20 h20 => ?_)
    refine xsub 22 _ ⟨u329, _, rfl⟩ rfl rfl (by omega) (by omega) (fun z21 h21 => ?_)
    refine xcmp_ge 25 ⟨u329, _, rfl⟩ rfl (fun c22 => ?_) (fun c22 => ?_)
    · omega
    · refine xild 26 ⟨u329, _, rfl⟩ rfl rfl ?_
      refine xild 27 ⟨u329, _, rfl⟩ rfl rfl ?_
      refine xcallS 30 [.int _] [.int _] hH ⟨u329, _, rfl⟩ rfl rfl rfl rfl rfl (k_bc hwt (fun z27 h27 => ⟨_, rfl, ?_⟩))
      refine xcst 31 (3) ⟨u329, _, rfl⟩ rfl (by decide) (fun z30 h30 => ?_)
      refine xcmp_le 34 ⟨u329, _, rfl⟩ rfl (fun c31 => ?_) (fun c31 => ?_)
      · refine xcst 47 (0) ⟨u329, _, rfl⟩ rfl (by decide) (fun z46 h46 => ?_)
        refine xadd 48 _ ⟨u329, _, rfl⟩ rfl rfl (by omega) (by omega) (fun z47 h47 => ?_)
        refine xist 49 ⟨u329, _, rfl⟩ rfl rfl ?_
        refine xinc 52 (1) ⟨u329, _, rfl⟩ rfl rfl rfl (by decide) (by omega) (by omega) (fun z49 h49 => ?_)
        refine xgoto ⟨u329, _, rfl⟩ ?_
        rw [sbP_0 (fun z => by have := z.1; omega)] at k3
        exact ih (t + 1) _ _ (by omega) (by omega) (by omega)
      · refine xald 35 ⟨u329, _, rfl⟩ rfl rfl ?_
        refine xild 36 ⟨u329, _, rfl⟩ rfl rfl ?_
        refine xcall 39 [.ref 66, .int _] [.int _] hH ⟨u329, _, rfl⟩ rfl rfl rfl rfl rfl (k_328E hH hL hT hwt (by omega) (fun z36 h36 => ⟨_, rfl, ?_⟩))
        refine xif_eq 42 ⟨u329, _, rfl⟩ rfl (fun c39 => ?_) (fun c39 => ?_)
        · refine xcst 47 (0) ⟨u329, _, rfl⟩ rfl (by decide) (fun z46 h46 => ?_)
          refine xadd 48 _ ⟨u329, _, rfl⟩ rfl rfl (by omega) (by omega) (fun z47 h47 => ?_)
          refine xist 49 ⟨u329, _, rfl⟩ rfl rfl ?_
          refine xinc 52 (1) ⟨u329, _, rfl⟩ rfl rfl rfl (by decide) (by omega) (by omega) (fun z49 h49 => ?_)
          refine xgoto ⟨u329, _, rfl⟩ ?_
          have c9 : ¬ clB T t (trL T 225).length := by
            rcases h36 with ⟨q, -⟩ | ⟨-, q⟩
            · omega
            · exact q
          rw [sbP_0 (fun z => c9 z.2)] at k3
          exact ih (t + 1) _ _ (by omega) (by omega) (by omega)
        · refine xcst 43 (1) ⟨u329, _, rfl⟩ rfl (by decide) (fun z42 h42 => ?_)
          refine xgoto ⟨u329, _, rfl⟩ ?_
          refine xadd 48 _ ⟨u329, _, rfl⟩ rfl rfl (by omega) (by omega) (fun z47 h47 => ?_)
          refine xist 49 ⟨u329, _, rfl⟩ rfl rfl ?_
          refine xinc 52 (1) ⟨u329, _, rfl⟩ rfl rfl rfl (by decide) (by omega) (by omega) (fun z49 h49 => ?_)
          refine xgoto ⟨u329, _, rfl⟩ ?_
          have c9 : clB T t (trL T 225).length := by
            rcases h36 with ⟨-, q⟩ | ⟨q, -⟩
            · exact q
            · omega
          rw [sbP_1 ⟨by omega, c9⟩] at k3
          exact ih (t + 1) _ _ (by omega) (by omega) (by omega)
theorem k_329E {d V n : Nat} {h : Nat → sR} {sv : Option sR} {T : sT} {ty : Nat → Int} {hp : amH} {R : xQ} (hH : bHk 84 bTT hp) (hP : P0 hp) (hS : rfS hp (V, T, ty) n h sv)
    (hR : ∀ (z : Int32) hp1, bHk 84 bTT hp1 → P0 hp1 → bFr wM hp hp1 → rfS hp1 (V, T, ty) n h sv → z.toInt = ((sbC V T (2 ^ V - 1) : Nat) : Int) → R (.inl (some (.int z))) hp1) : xK (d + 4) 329 [.ref 66] hp R := by
  have hB : rdOk hp V T := rowOk_rd hS.1
  have b0 : rN hp 67 0 = (V : Int) := hB.1
  have hT0 : sOk V T := hB.2.1
  have h15 : V ≤ 15 := hT0.2.1
  have l35 : (trL T 225).length ≤ 35 := trL_35 hT0 225
  have h2V : 2 ^ V ≤ 32768 := Nat.pow_le_pow_right (by decide) h15
  refine xin (M := am_m329) rfl rfl rfl ?_
  refine xald 1 ⟨u329, _, rfl⟩ rfl rfl ?_
  refine xcst 2 (0) ⟨u329, _, rfl⟩ rfl (by decide) (fun z1 h1 => ?_)
  refine xputI 5 hH ⟨u329, _, rfl⟩ rfl rfl ⟨rfl, rfl⟩ (by omega) (by omega) (fun hp2 hH2 U2 => ?_)
  have s2 := U2.1
  have S2 := rfS_W (W := [(66, 7)]) hS (rU_fr U2 rfl) (fun _ => rfl) rfl rfl (fun _ => rfl) (fun _ => rfl)
  have P2 := P0_W (W := [(66, 7)]) (by decide) (rU_fr U2 rfl) hP
  refine xald 6 ⟨u329, _, rfl⟩ rfl rfl ?_
  refine xcall 9 [.ref 66] [] hH2 ⟨u329, _, rfl⟩ rfl rfl rfl rfl rfl (k_rlst hH2 (V := V) (T := T) (show rdOk hp2 V T from rowOk_rd S2.1) (fun hp6 hH6 F6 B6 L6 => ⟨_, rfl, ?_⟩))
  have S6 := rfS_W S2 F6 (fun _ => rfl) rfl rfl (fun _ => rfl) (fun _ => rfl)
  have P6 : P0 hp6 := P0_W (W := bLT) (by decide) F6 P2
  refine xcst 10 (0) ⟨u329, _, rfl⟩ rfl (by decide) (fun z9 h9 => ?_)
  refine xist 11 ⟨u329, _, rfl⟩ rfl rfl ?_
  refine xcst 12 (0) ⟨u329, _, rfl⟩ rfl (by decide) (fun z11 h11 => ?_)
  refine xist 13 ⟨u329, _, rfl⟩ rfl rfl ?_
  exact l329E hH6 B6 L6 h2V (fun z e => hR z hp6 hH6 P6 ((rU_fr U2 (by decide)).trans (bFr_sub F6 (by decide))) S6 e) (2 ^ V - 1) 0 _ _ h11 (by omega) h9
end
/-! ##### q51 ##### -/
section
/-! ===== closure on both sides ===== -/
theorem sm_lt {f g : Nat → Nat} {n k : Nat} (h : ∀ i, i < n → f i ≤ g i) (hk : k < n) (h2 : f k < g k) : sm f n < sm g n := by
  have a : sm (fun i => f i + (if i = k then 1 else 0)) n = sm f n + sm (fun i => if i = k then 1 else 0) n := sm_add f (fun i => if i = k then 1 else 0) n
  have b : sm (fun i => if i = k then 1 else 0) n = 1 := sm_one hk (if_pos rfl) (fun i _ g => if_neg g)
  have c : sm (fun i => f i + (if i = k then 1 else 0)) n ≤ sm g n := sm_le n (fun i hi => by
    by_cases e : i = k
    · subst e; rw [if_pos rfl]; omega
    · rw [if_neg e]; have := h i hi; omega)
  omega
theorem pq_b {m : Nat} : pq m = sm (fun j => iv (m.testBit j = true)) 15 := pq_iv (fun _ _ => Iff.rfl)
theorem pq_lt {m n k : Nat} (h : ∀ i, m.testBit i = true → n.testBit i = true) (hk : k < 15) (h1 : ¬ m.testBit k = true) (h2 : n.testBit k = true) : pq m < pq n := by
  rw [pq_b, pq_b]
  refine sm_lt (k := k) (fun i _ => ?_) hk ?_
  · by_cases g : m.testBit i = true
    · rw [iv_t g, iv_t (h i g)]; exact Nat.le_refl _
    · rw [iv_f g]; exact Nat.zero_le _
  · rw [iv_f h1, iv_t h2]; exact Nat.zero_lt_one
theorem pq_le {m n : Nat} (h : ∀ i, m.testBit i = true → n.testBit i = true) : pq m ≤ pq n := by
  rw [pq_b, pq_b]
  refine sm_le 15 (fun i _ => ?_)
  by_cases g : m.testBit i = true
  · rw [iv_t g, iv_t (h i g)]; exact Nat.le_refl _
  · rw [iv_f g]; exact Nat.zero_le _
theorem full_t {i : Nat} : (32767 : Nat).testBit i = decide (i < 15) := Nat.testBit_two_pow_sub_one 15 i
theorem sub_full {m : Nat} (h : m < 32768) {i : Nat} (g : m.testBit i = true) : i < 15 := by
  apply Classical.byContradiction
  intro w
  rw [Nat.testBit_lt_two_pow (Nat.lt_of_lt_of_le h (Nat.pow_le_pow_right (by decide) (by omega) : 2 ^ 15 ≤ 2 ^ i))] at g
  cases g
theorem pq_15 {m : Nat} (h : m < 32768) : pq m ≤ 15 := by
  have a : pq m ≤ pq 32767 := pq_le (fun i g => by rw [full_t]; exact decide_eq_true (sub_full h g))
  have b : pq 32767 = 15 := by decide
  omega
theorem pq_all {m : Nat} (h : m < 32768) (g : 15 ≤ pq m) {i : Nat} (hi : i < 15) : m.testBit i = true := by
  apply Classical.byContradiction
  intro w
  have a : pq m < pq 32767 := pq_lt (k := i) (fun j g => by rw [full_t]; exact decide_eq_true (sub_full h g)) hi w (by rw [full_t]; exact decide_eq_true hi)
  have b : pq 32767 = 15 := by decide
  omega
/-- how many of three points a set has -/
theorem bc_3t {m x y z : Nat} (hx : x < 15) (hy : y < 15) (hz : z < 15) (hxy : ¬ x = y) (hyz : ¬ y = z) (hxz : ¬ x = z) : bcN (m3 x y z &&& m) = ((iv (m.testBit x = true) + iv (m.testBit y = true) + iv (m.testBit z = true) : Nat) : Int) := by
  have ml : m3 x y z &&& m < 32768 := by
    have h1 : m3 x y z < 2 ^ 15 := by
      unfold m3
      exact Nat.or_lt_two_pow (Nat.or_lt_two_pow (Nat.pow_lt_pow_right (by decide) hx) (Nat.pow_lt_pow_right (by decide) hy)) (Nat.pow_lt_pow_right (by decide) hz)
    exact Nat.lt_of_le_of_lt Nat.and_le_left h1
  rw [bc_pq ml, pq_b]
  congr 1
  have e : ∀ j, j < 15 → iv ((m3 x y z &&& m).testBit j = true) = (if j = x then iv (m.testBit x = true) else 0) + (if j = y then iv (m.testBit y = true) else 0) + (if j = z then iv (m.testBit z = true) else 0) := by
    intro j _
    have t : (m3 x y z &&& m).testBit j = true ↔ ((j = x ∨ j = y ∨ j = z) ∧ m.testBit j = true) := by
      rw [Nat.testBit_and, m3_test, Bool.and_eq_true, decide_eq_true_iff]
    by_cases g : j = x
    · rw [if_pos g, if_neg (fun w => hxy (g.symm.trans w)), if_neg (fun w => hxz (g.symm.trans w)), iv_eq t]
      simp only [Nat.zero_add, Nat.add_zero]
      subst g
      exact iv_eq ⟨fun w => w.2, fun w => ⟨Or.inl rfl, w⟩⟩
    · by_cases g2 : j = y
      · rw [if_neg g, if_pos g2, if_neg (fun w => hyz (g2.symm.trans w)), iv_eq t]
        simp only [Nat.zero_add, Nat.add_zero]
        subst g2
        exact iv_eq ⟨fun w => w.2, fun w => ⟨Or.inr (Or.inl rfl), w⟩⟩
      · by_cases g3 : j = z
        · rw [if_neg g, if_neg g2, if_pos g3, iv_eq t]
          simp only [Nat.zero_add, Nat.add_zero]
          subst g3
          exact iv_eq ⟨fun w => w.2, fun w => ⟨Or.inr (Or.inr rfl), w⟩⟩
        · rw [if_neg g, if_neg g2, if_neg g3]
          show _ = 0
          exact iv_f (fun w => by rcases (t.mp w).1 with p | p | p <;> contradiction)
  rw [sm_ext 15 e, sm_add, sm_add]
  have o : ∀ k c, k < 15 → sm (fun j => if j = k then c else 0) 15 = c := fun k c hk => sm_one hk (if_pos rfl) (fun i _ g => if_neg g)
  rw [o x _ hx, o y _ hy, o z _ hz]
def cSub (m n : Nat) : Prop := ∀ i, m.testBit i = true → n.testBit i = true
/-- the least closed set round a set -/
def clP (T : sT) (s r : Nat) : Prop := cSub s r ∧ clB T r (trL T 225).length ∧ ∀ x, cSub s x → clB T x (trL T 225).length → cSub r x
noncomputable def clN (T : sT) (s : Nat) : Nat := Classical.epsilon (clP T s)
theorem clN_e {T : sT} {s r : Nat} (h : clP T s r) : clN T s = r := by
  have g : clP T s (clN T s) := Classical.epsilon_spec ⟨r, h⟩
  refine Nat.eq_of_testBit_eq (fun i => ?_)
  have a := g.2.2 r h.1 h.2.1 i
  have b := h.2.2 (clN T s) g.1 g.2.1 i
  cases e : (clN T s).testBit i <;> cases f : r.testBit i
  · rfl
  · rw [b f] at e; cases e
  · rw [a e] at f; cases f
  · rfl
theorem clB_all {T : sT} {V m : Nat} (hT : sOk V T) (h : ∀ i, i < V → m.testBit i = true) : clB T m (trL T 225).length := by
  intro t ht
  obtain ⟨x, y, z, q1, q2, q3, q4, q5⟩ := mN_p hT ht
  have hV := hT.2.1
  rw [q1, bc_3t (by omega) (by omega) (by omega) (by omega) (by omega) (by omega), iv_t (h x (by omega)), iv_t (h y (by omega)), iv_t (h z q4)]
  decide
/-- a closed set with two points of a triple has the third -/
theorem clB_T {T : sT} {V m a b c : Nat} (hT : sOk V T) (h : clB T m (trL T 225).length) (e : T a b = (c : Int)) (ha : m.testBit a = true) (hb : m.testBit b = true) : m.testBit c = true := by
  obtain ⟨k, e2, k1, k2, k3, k4, k5, k6, -, -⟩ := sOk_at hT e (by omega)
  have hV := hT.2.1
  obtain rfl : c = k := by omega
  obtain ⟨t, ht, -, h3⟩ := nm_of hT e
  have em := (nm_inv h3).2
  have g := h t ht
  rw [em, bc_3t (by omega) (by omega) (by omega) k4 k6 k5, iv_t ha, iv_t hb] at g
  apply Classical.byContradiction
  intro w
  rw [iv_f w] at g
  exact g rfl
/-- closed by third points: closed -/
theorem cz_B {T : sT} {V m : Nat} (hT : sOk V T) (h : ∀ a b c : Nat, b < a → a < V → m.testBit a = true → m.testBit b = true → T a b = (c : Int) → m.testBit c = true) : clB T m (trL T 225).length := by
  intro t ht
  obtain ⟨x, y, z, q1, q2, q3, q4, q5⟩ := mN_p hT ht
  have hV := hT.2.1
  obtain ⟨k, e2, k1, k2, k3, k4, k5, k6, k7, k8⟩ := sOk_at hT q5 (by omega)
  obtain rfl : z = k := by omega
  have yx : T y x = (z : Int) := k7
  have zx : T z x = (y : Int) := by rw [sy_T hT]; exact k8.1
  have zy : T z y = (x : Int) := by
    obtain ⟨k', e', -, -, -, -, -, -, -, k9⟩ := sOk_at hT yx (by omega)
    obtain rfl : z = k' := by omega
    rw [sy_T hT]
    exact k9.1
  have hx := fun g1 g2 => h z y x (by omega) q4 g1 g2 zy
  have hy := fun g1 g2 => h z x y (by omega) q4 g1 g2 zx
  have hz := fun g1 g2 => h y x z (by omega) (by omega) g1 g2 yx
  rw [q1, bc_3t (by omega) (by omega) (by omega) k4 k6 k5]
  by_cases g1 : m.testBit x = true <;> by_cases g2 : m.testBit y = true <;> by_cases g3 : m.testBit z = true
  · rw [iv_t g1, iv_t g2, iv_t g3]; decide
  · exact absurd (hz g2 g1) g3
  · exact absurd (hy g3 g1) g2
  · rw [iv_t g1, iv_f g2, iv_f g3]; decide
  · exact absurd (hx g3 g2) g1
  · rw [iv_f g1, iv_t g2, iv_f g3]; decide
  · rw [iv_f g1, iv_f g2, iv_t g3]; decide
  · rw [iv_f g1, iv_f g2, iv_f g3]; decide
/-- what has just two of a triple's points: the triple brings one in -/
theorem cl_two {T : sT} {V m t : Nat} (hT : sOk V T) (ht : t < (trL T 225).length) (h : bcN (mN T t &&& m) = 2) : (∃ k, k < 15 ∧ ¬ m.testBit k = true ∧ (m ||| mN T t).testBit k = true) ∧ ∀ x, clB T x (trL T 225).length → cSub m x → cSub (m ||| mN T t) x := by
  obtain ⟨x, y, z, q1, q2, q3, q4, q5⟩ := mN_p hT ht
  have hV := hT.2.1
  have b : ∀ n : Nat, bcN (mN T t &&& n) = ((iv (n.testBit x = true) + iv (n.testBit y = true) + iv (n.testBit z = true) : Nat) : Int) := fun n => by rw [q1]; exact bc_3t (by omega) (by omega) (by omega) (by omega) (by omega) (by omega)
  have tt : ∀ i, (m ||| mN T t).testBit i = true ↔ (m.testBit i = true ∨ i = x ∨ i = y ∨ i = z) := fun i => by rw [q1, Nat.testBit_or, Bool.or_eq_true, m3_test, decide_eq_true_iff]
  have b0 := b m
  rw [h] at b0
  constructor
  · apply Classical.byContradiction
    intro w
    have w2 : ∀ i, (i = x ∨ i = y ∨ i = z) → m.testBit i = true := fun i hi => Classical.byContradiction (fun g => w ⟨i, by omega, g, (tt i).mpr (Or.inr hi)⟩)
    rw [iv_t (w2 x (Or.inl rfl)), iv_t (w2 y (Or.inr (Or.inl rfl))), iv_t (w2 z (Or.inr (Or.inr rfl)))] at b0
    omega
  · intro n hc hs
    have g := hc t ht
    rw [b n] at g
    have l : ∀ i, iv (m.testBit i = true) ≤ iv (n.testBit i = true) := fun i => by
      by_cases e : m.testBit i = true
      · rw [iv_t e, iv_t (hs i e)]; exact Nat.le_refl _
      · rw [iv_f e]; exact Nat.zero_le _
    have lx := l x
    have ly := l y
    have lz := l z
    have ux : iv (n.testBit x = true) ≤ 1 := iv_le
    have uy : iv (n.testBit y = true) ≤ 1 := iv_le
    have uz : iv (n.testBit z = true) ≤ 1 := iv_le
    have one : ∀ i, iv (n.testBit i = true) = 1 → n.testBit i = true := fun i e => Classical.byContradiction (fun w => by rw [iv_f w] at e; omega)
    intro i hi
    rcases (tt i).mp hi with e | e | e | e
    · exact hs i e
    · rw [e]; exact one x (by omega)
    · rw [e]; exact one y (by omega)
    · rw [e]; exact one z (by omega)
def gCl (V : Nat) (x : Int) : Int := if 0 ≤ x ∧ x < ((2 ^ V : Nat) : Int) then 0 else 1
theorem gCl_0 {V : Nat} {x : Int} : gCl V x = 0 ↔ (0 ≤ x ∧ x < ((2 ^ V : Nat) : Int)) := by
  unfold gCl
  split
  · next h => exact ⟨fun _ => h, fun _ => rfl⟩
  · next h => exact ⟨fun w => absurd w (by decide), fun w => absurd w h⟩
theorem gCl_1 {V : Nat} {x : Int} (h : ¬ gCl V x = 0) : gCl V x = 1 := by
  unfold gCl at *
  split at h
  · exact absurd rfl h
  · next g => exact if_neg g
theorem i_hi {s a e : Int32} {V : Nat} (ha : a.toInt = ((2 ^ V - 1 : Nat) : Int)) (hV : V ≤ 15) (he : e.toInt = -1) : (s &&& (a ^^^ e)).toInt = 0 ↔ (0 ≤ s.toInt ∧ s.toInt < ((2 ^ V : Nat) : Int)) := by
  have p15 : 2 ^ V ≤ 2 ^ 15 := Nat.pow_le_pow_right (by decide) hV
  have ea : a.toBitVec.toNat = 2 ^ V - 1 := bN_t ha
  have ee : e = -1 := Int32.toInt_inj.mp (by rw [he]; decide)
  have ab : ∀ i, i < 32 → (s &&& (a ^^^ e)).toBitVec.getLsbD i = (s.toBitVec.getLsbD i && !decide (i < V)) := by
    intro i hi
    rw [ee, Int32.toBitVec_and, Int32.toBitVec_xor, BitVec.getLsbD_and, BitVec.getLsbD_xor, ← BitVec.testBit_toNat a.toBitVec, ea, Nat.testBit_two_pow_sub_one]
    have e1 : (-1 : Int32).toBitVec = BitVec.allOnes 32 := by decide
    rw [e1, BitVec.getLsbD_allOnes, decide_eq_true hi, Bool.xor_true]
  have sb := s.toBitVec.isLt
  have ez : (s &&& (a ^^^ e)).toInt = 0 ↔ (s &&& (a ^^^ e)).toBitVec = 0#32 := by
    constructor
    · intro h
      have : s &&& (a ^^^ e) = 0 := Int32.toInt_inj.mp (by rw [h]; rfl)
      rw [this]; rfl
    · intro h
      show (s &&& (a ^^^ e)).toBitVec.toInt = 0
      rw [h]; rfl
  have es : (0 ≤ s.toInt ∧ s.toInt < ((2 ^ V : Nat) : Int)) ↔ s.toBitVec.toNat < 2 ^ V := by
    have e1 : s.toInt = s.toBitVec.toInt := rfl
    rw [e1, BitVec.toInt_eq_toNat_cond]
    split <;> constructor <;> intro h <;> omega
  rw [ez, es]
  constructor
  · intro h
    refine Nat.lt_pow_two_of_testBit _ (fun i hi => ?_)
    rw [BitVec.testBit_toNat]
    by_cases g : i < 32
    · have k := ab i g
      rw [h] at k
      have : ¬ i < V := by omega
      simpa [this] using k.symm
    · exact BitVec.getLsbD_of_ge _ _ (by omega)
  · intro h
    refine BitVec.eq_of_getLsbD_eq (fun i hi => ?_)
    rw [ab i hi]
    by_cases g : i < V
    · simp [g]
    · have : s.toBitVec.getLsbD i = false := by
        rw [← BitVec.testBit_toNat]
        exact Nat.testBit_lt_two_pow (Nat.lt_of_lt_of_le h (Nat.pow_le_pow_right (by decide) (by omega)))
      rw [this]; simp
theorem u33 : bUp 0 am_m33.1 = true := by decide +kernel
/-- between the set and each closed one round it -/
def clI (T : sT) (s g : Nat) : Prop := cSub s g ∧ ∀ x, cSub s x → clB T x (trL T 225).length → cSub g x
theorem l33t {d V ms m0 : Nat} {T : sT} {hp : amH} {R : xQ} {s wr : Int32} (hH : bHk 84 bTT hp) (hL : lsN hp 3 T 225) (hT : sOk V T) (h0 : m0 < 32768)
    (hQ : ∀ (m : Nat) (w wt : Int32), w.toInt = (m : Int) → m < 32768 → clI T ms m → ((m = m0 ∧ clB T m0 (trL T 225).length) ∨ pq m0 < pq m) → xV (d + 2) am_m33 60 [some (.ref 3), some (.int s), some (.int w), some (.int wr), some (.int wt)] [] hp R) :
    ∀ (jj t m : Nat) (w wt : Int32), wt.toInt = (t : Int) → t + jj = (trL T 225).length → w.toInt = (m : Int) → m < 32768 → clI T ms m → ((m = m0 ∧ clB T m0 t) ∨ pq m0 < pq m) → xV (d + 2) am_m33 21 [some (.ref 3), some (.int s), some (.int w), some (.int wr), some (.int wt)] [] hp R := by
  have l35 := trL_35 hT 225
  have b1 : rN hp 3 1 = (((trL T 225).length : Nat) : Int) := hL.1
  intro jj
  induction jj with
  | zero =>
    intro t m w wt hwt hj hw hm hI hs
    obtain rfl : t = (trL T 225).length := by omega
    refine xild2 23 ⟨u33, _, rfl⟩ rfl rfl ?_
    refine xald 24 ⟨u33, _, rfl⟩ rfl rfl ?_
    refine xgetC 27 hH ⟨u33, _, rfl⟩ rfl (by decide) (by decide) rfl rfl (by decide) (fun z24 h24 => ?_)
    refine xcmp_ge 30 ⟨u33, _, rfl⟩ rfl (fun c27 => ?_) (fun c27 => ?_)
    · exact hQ m _ _ hw hm hI hs
    · omega
  | succ jj ih =>
    intro t m w wt hwt hj hw hm hI hs
    have ht : t < (trL T 225).length := by omega
    have ml := (mN_lt hT ht).1
    refine xild2 23 ⟨u33, _, rfl⟩ rfl rfl ?_
    refine xald 24 ⟨u33, _, rfl⟩ rfl rfl ?_
    refine xgetC 27 hH ⟨u33, _, rfl⟩ rfl (by decide) (by decide) rfl rfl (by decide) (fun z24 h24 => ?_)
    refine xcmp_ge 30 ⟨u33, _, rfl⟩ rfl (fun c27 => ?_) (fun c27 => ?_)
    · omega
    · refine xald 31 ⟨u33, _, rfl⟩ rfl rfl ?_
      refine xild2 33 ⟨u33, _, rfl⟩ rfl rfl ?_
      refine xcallC 36 (o := 3) [.int _] [] hH ⟨u33, _, rfl⟩ rfl rfl (by decide) rfl (by decide) rfl ⟨rfl, rfl, rfl, rfl⟩ rfl (k_setL hH hL (t := t) hwt ht (fun z33 h33 => ⟨_, rfl, ?_⟩))
      refine xild 37 ⟨u33, _, rfl⟩ rfl rfl ?_
      refine xand 38 ⟨u33, _, rfl⟩ rfl ?_
      refine xcallS 41 [.int _] [] hH ⟨u33, _, rfl⟩ rfl rfl rfl rfl rfl (k_bc (i_and h33 hw ml).1 (fun z38 h38 => ⟨_, rfl, ?_⟩))
      refine xcst 42 (2) ⟨u33, _, rfl⟩ rfl (by decide) (fun z41 h41 => ?_)
      refine xcmp_ne 45 ⟨u33, _, rfl⟩ rfl (fun c42 => ?_) (fun c42 => ?_)
      · refine xinc 57 (1) ⟨u33, _, rfl⟩ rfl rfl rfl (by decide) (by omega) (by omega) (fun z54 h54 => ?_)
        refine xgoto ⟨u33, _, rfl⟩ ?_
        refine ih (t + 1) m _ _ (by omega) (by omega) hw hm hI (hs.imp (fun e => ⟨e.1, clB_s e.2 ?_⟩) id)
        rw [← e.1]
        omega
      · refine xild 46 ⟨u33, _, rfl⟩ rfl rfl ?_
        refine xald 47 ⟨u33, _, rfl⟩ rfl rfl ?_
        refine xild2 49 ⟨u33, _, rfl⟩ rfl rfl ?_
        refine xcallC 52 (o := 3) [.int _] [.int _] hH ⟨u33, _, rfl⟩ rfl rfl (by decide) rfl (by decide) rfl ⟨rfl, rfl, rfl, rfl⟩ rfl (k_setL hH hL (t := t) hwt ht (fun z49 h49 => ⟨_, rfl, ?_⟩))
        refine xor_ 53 ⟨u33, _, rfl⟩ rfl ?_
        have e53 := i_or hw h49 hm ml
        have tw := cl_two hT ht (show bcN (mN T t &&& m) = 2 by omega)
        refine xist 54 ⟨u33, _, rfl⟩ rfl rfl ?_
        refine xinc 57 (1) ⟨u33, _, rfl⟩ rfl rfl rfl (by decide) (by omega) (by omega) (fun z54 h54 => ?_)
        refine xgoto ⟨u33, _, rfl⟩ ?_
        obtain ⟨k, k1, k2, k3⟩ := tw.1
        have up : pq m < pq (m ||| mN T t) := pq_lt (k := k) (fun i g => by rw [Nat.testBit_or, g]; rfl) k1 k2 k3
        refine ih (t + 1) _ _ _ (by omega) (by omega) e53.1 e53.2 ⟨fun i g => ?_, fun x g1 g2 => tw.2 x g2 (hI.2 x g1 g2)⟩ (Or.inr ?_)
        · rw [Nat.testBit_or, hI.1 i g]; rfl
        · rcases hs with e | e
          · rw [← e.1]; exact up
          · omega
theorem l33r {d V ms : Nat} {T : sT} {hp : amH} {R : xQ} {s : Int32} (hH : bHk 84 bTT hp) (hL : lsN hp 3 T 225) (hT : sOk V T)
    (hR : ∀ (z : Int32) (m : Nat), z.toInt = (m : Int) → clP T ms m → R (.inl (some (.int z))) hp) :
    ∀ (jj r m : Nat) (w wr : Int32) (v4 : Option Value), wr.toInt = (r : Int) → r + jj = 15 → w.toInt = (m : Int) → m < 32768 → clI T ms m → r ≤ pq m → xV (d + 2) am_m33 4 [some (.ref 3), some (.int s), some (.int w), some (.int wr), v4] [] hp R := by
  have l35 := trL_35 hT 225
  have b1 : rN hp 3 1 = (((trL T 225).length : Nat) : Int) := hL.1
  intro jj
  induction jj with
  | zero =>
    intro r m w wr v4 hwr hj hw hm hI hpq
    refine xild 5 ⟨u33, _, rfl⟩ rfl rfl ?_
    refine xbip 7 (15) ⟨u33, _, rfl⟩ rfl (by decide) (fun z5 h5 => ?_)
    refine xcmp_ge 10 ⟨u33, _, rfl⟩ rfl (fun c7 => ?_) (fun c7 => ?_)
    · refine xild 67 ⟨u33, _, rfl⟩ rfl rfl ?_
      exact xret ⟨u33, _, rfl⟩ rfl (hR _ m hw ⟨hI.1, clB_all hT (fun i hi => pq_all hm (by omega) (by have := hT.2.1; omega)), hI.2⟩)
    · omega
  | succ jj ih =>
    intro r m w wr v4 hwr hj hw hm hI hpq
    refine xild 5 ⟨u33, _, rfl⟩ rfl rfl ?_
    refine xbip 7 (15) ⟨u33, _, rfl⟩ rfl (by decide) (fun z5 h5 => ?_)
    refine xcmp_ge 10 ⟨u33, _, rfl⟩ rfl (fun c7 => ?_) (fun c7 => ?_)
    · omega
    · refine xald 11 ⟨u33, _, rfl⟩ rfl rfl ?_
      refine xild 12 ⟨u33, _, rfl⟩ rfl rfl ?_
      refine xcallC 15 (o := 3) [.int _] [] hH ⟨u33, _, rfl⟩ rfl rfl (by decide) rfl (by decide) rfl ⟨rfl, rfl, rfl, rfl⟩ rfl (k_32E hH hL hT hw hm (fun z12 h12 => ⟨_, rfl, ?_⟩))
      refine xif_ne 18 ⟨u33, _, rfl⟩ rfl (fun c15 => ?_) (fun c15 => ?_)
      · have yc : clB T m (trL T 225).length := by
          rcases h12 with ⟨-, e⟩ | ⟨e, -⟩
          · exact e
          · omega
        refine xild 67 ⟨u33, _, rfl⟩ rfl rfl ?_
        exact xret ⟨u33, _, rfl⟩ rfl (hR _ m hw ⟨hI.1, yc, hI.2⟩)
      · have nc : ¬ clB T m (trL T 225).length := by
          rcases h12 with ⟨e, -⟩ | ⟨-, e⟩
          · omega
          · exact e
        refine xcst 19 (0) ⟨u33, _, rfl⟩ rfl (by decide) (fun z18 h18 => ?_)
        refine xist2 21 ⟨u33, _, rfl⟩ rfl rfl ?_
        refine l33t (m0 := m) (ms := ms) hH hL hT hm (fun m1 w1 wt q1 q2 q3 q4 => ?_) (trL T 225).length 0 m _ _ (by omega) (by omega) hw hm hI (Or.inl ⟨rfl, fun s hs => absurd hs (Nat.not_lt_zero s)⟩)
        have up : pq m < pq m1 := by
          rcases q4 with e | e
          · exact absurd e.2 nc
          · exact e
        refine xinc 63 (1) ⟨u33, _, rfl⟩ rfl rfl rfl (by decide) (by omega) (by omega) (fun z60 h60 => ?_)
        refine xgoto ⟨u33, _, rfl⟩ ?_
        exact ih (r + 1) m1 _ _ _ (by omega) (by omega) q1 q2 q3 (by omega)
theorem k_33E {d V ms : Nat} {T : sT} {hp : amH} {R : xQ} {s : Int32} (hH : bHk 84 bTT hp) (hL : lsN hp 3 T 225) (hT : sOk V T) (hs : s.toInt = (ms : Int)) (hm : ms < 32768)
    (hR : ∀ (z : Int32) (m : Nat), z.toInt = (m : Int) → clP T ms m → R (.inl (some (.int z))) hp) : xK (d + 2) 33 [.ref 3, .int s] hp R := by
  refine xin (M := am_m33) rfl rfl rfl ?_
  refine xild 1 ⟨u33, _, rfl⟩ rfl rfl ?_
  refine xist 2 ⟨u33, _, rfl⟩ rfl rfl ?_
  refine xcst 3 (0) ⟨u33, _, rfl⟩ rfl (by decide) (fun z2 h2 => ?_)
  refine xist 4 ⟨u33, _, rfl⟩ rfl rfl ?_
  refine xpad 1 ?_
  exact l33r hH hL hT hR 15 0 ms _ _ _ h2 rfl hs hm ⟨fun i g => g, fun x g1 g2 => g1⟩ (Nat.zero_le _)
theorem u162 : bUp 0 am_m162.1 = true := by decide +kernel
theorem k_162E {d V n : Nat} {h : Nat → sR} {sv : Option sR} {T : sT} {ty : Nat → Int} {hp : amH} {R : xQ} {s : Int32} (hH : bHk 84 bTT hp) (hS : clS hp (V, T, ty) n h sv)
    (hT : ∀ E hp1, bHk 84 bTT hp1 → cF hp hp1 → clS hp1 (V, T, ty) n h sv → ¬ gCl V s.toInt = 0 → ((gCl V s.toInt = 1 ∧ E = 0)) → R (.inr E) hp1)
    (hR : ∀ (z : Int32) hp1, bHk 84 bTT hp1 → cF hp hp1 → gCl V s.toInt = 0 → clS hp1 (V, T, ty) n h sv → z.toInt = ((clN T s.toInt.toNat : Nat) : Int) → R (.inl (some (.int z))) hp1) : xK (d + 4) 162 [.ref 0, .int s] hp R := by
  have hB : bdOk hp 3 V T := hS.1
  have b0 : rN hp 3 0 = (V : Int) := hB.1
  have hL : lsN hp 3 T 225 := hS.2.1
  have b1 : rN hp 3 1 = (((trL T 225).length : Nat) : Int) := hL.1
  have hT0 : sOk V T := hB.2.1
  have h15 : V ≤ 15 := hT0.2.1
  have l35 : (trL T 225).length ≤ 35 := trL_35 hT0 225
  have nq0 : rN hp 49 0 = ((nQ T : Nat) : Int) := hS.2.2.1.1
  have p15 : 2 ^ V ≤ 2 ^ 15 := Nat.pow_le_pow_right (by decide) h15
  have g01 : gCl V s.toInt = 0 ∨ gCl V s.toInt = 1 := Classical.or_iff_not_imp_left.mpr gCl_1
  refine xin (M := am_m162) rfl rfl rfl ?_
  refine xild 1 ⟨u162, _, rfl⟩ rfl rfl ?_
  refine xald 2 ⟨u162, _, rfl⟩ rfl rfl ?_
  refine xgetD 5 (3) hH ⟨u162, _, rfl⟩ rfl (by decide) (by decide) rfl rfl (by decide) ?_
  refine xcallC 8 (o := 3) [] [.int _] hH ⟨u162, _, rfl⟩ rfl rfl (by decide) rfl (by decide) rfl ⟨rfl, rfl, rfl, rfl⟩ rfl (k_all (o := 3) (Or.inl rfl) hH b0 (fun z5 h5 => ⟨_, rfl, ?_⟩))
  refine xcst 9 (-1) ⟨u162, _, rfl⟩ rfl (by decide) (fun z8 h8 => ?_)
  refine xxor 10 ⟨u162, _, rfl⟩ rfl ?_
  refine xand 11 ⟨u162, _, rfl⟩ rfl ?_
  have ih := i_hi (s := s) h5 h15 h8
  refine xif_eq 14 ⟨u162, _, rfl⟩ rfl (fun c11 => ?_) (fun c11 => ?_)
  · have g0 : gCl V s.toInt = 0 := gCl_0.mpr (ih.mp c11)
    have k0 := gCl_0.mp g0
    refine xald 26 ⟨u162, _, rfl⟩ rfl rfl ?_
    refine xgetD 29 (3) hH ⟨u162, _, rfl⟩ rfl (by decide) (by decide) rfl rfl (by decide) ?_
    refine xild 30 ⟨u162, _, rfl⟩ rfl rfl ?_
    refine xcallC 33 (o := 3) [.int _] [] hH ⟨u162, _, rfl⟩ rfl rfl (by decide) rfl (by decide) rfl ⟨rfl, rfl, rfl, rfl⟩ rfl (k_33E hH hL hT0 (ms := s.toInt.toNat) (by omega) (by omega) (fun z30 m30 h30 g30 => ⟨_, rfl, ?_⟩))
    exact xret ⟨u162, _, rfl⟩ rfl (hR _ _ hH cF.refl g0 hS (by rw [clN_e g30]; exact h30))
  · have g1 : gCl V s.toInt = 1 := gCl_1 (fun w => c11 (ih.mpr (gCl_0.mp w)))
    exact xthr ⟨u162, _, rfl⟩ (by decide) rfl (by decide) (hT _ hp hH cF.refl hS (by rw [g1]; decide) ⟨g1, rfl⟩)
/-- pairs before (a, b) have their third points in -/
def rcI (T : sT) (ms m a b : Nat) : Prop := ∀ x y c : Nat, y < x → (x < a ∨ (x = a ∧ y < b)) → ms.testBit x = true → ms.testBit y = true → T x y = (c : Int) → m.testBit c = true
theorem clI_T {V : Nat} {T : sT} {ms m a b c : Nat} (hT : sOk V T) (h : clI T ms m) (e : T a b = (c : Int)) (ha : m.testBit a = true) (hb : m.testBit b = true) : clI T ms (m ||| 2 ^ c) := by
  refine ⟨fun i g => by rw [Nat.testBit_or, h.1 i g]; rfl, fun x g1 g2 i g => ?_⟩
  rw [Nat.testBit_or, Nat.testBit_two_pow, Bool.or_eq_true, decide_eq_true_iff] at g
  have k := h.2 x g1 g2
  rcases g with g | g
  · exact k i g
  · subst g
    exact clB_T hT g2 e (k a ha) (k b hb)
theorem clI_l {V : Nat} {T : sT} {ms m : Nat} (hT : sOk V T) (hm : m < 2 ^ V) {c : Nat} (hc : c < V) : m ||| 2 ^ c < 2 ^ V := Nat.or_lt_two_pow hm (Nat.pow_lt_pow_right (by decide) hc)
theorem l326b {d V ms a : Nat} {T : sT} {hp : amH} {R : xQ} {s wa : Int32} (hH : bHk 84 bTT hp) (hB : rdOk hp V T) (hwa : wa.toInt = (a : Int)) (ha : a < V)
    (hQ : ∀ (m : Nat) (w wb : Int32) (v5 : Option Value), w.toInt = (m : Int) → m < 2 ^ V → clI T ms m → rcI T ms m (a + 1) 0 → xV (d + 1) am_m326 81 [some (.ref 66), some (.int s), some (.int w), some (.int wa), some (.int wb), v5] [] hp R) :
    ∀ (jj b m : Nat) (w wb : Int32) (v5 : Option Value), wb.toInt = (b : Int) → b + jj = a → w.toInt = (m : Int) → m < 2 ^ V → clI T ms m → rcI T ms m a b → xV (d + 1) am_m326 15 [some (.ref 66), some (.int s), some (.int w), some (.int wa), some (.int wb), v5] [] hp R := by
  have hT := hB.2.1
  have b0 : rN hp 67 0 = (V : Int) := hB.1
  have hV := hT.2.1
  have p15 : 2 ^ V ≤ 2 ^ 15 := Nat.pow_le_pow_right (by decide) hV
  intro jj
  induction jj with
  | zero =>
    intro b m w wb v5 hwb hj hw hm hI hc
    obtain rfl : b = a := by omega
    refine xild2 17 ⟨u326, _, rfl⟩ rfl rfl ?_
    refine xild 18 ⟨u326, _, rfl⟩ rfl rfl ?_
    refine xcmp_ge 21 ⟨u326, _, rfl⟩ rfl (fun c18 => ?_) (fun c18 => ?_)
    · exact hQ m _ _ _ hw hm hI (fun x y c g1 g2 => hc x y c g1 (by omega))
    · omega
  | succ jj ih =>
    intro b m w wb v5 hwb hj hw hm hI hc
    have ea : wa.toInt.toNat = a := by omega
    have eb : wb.toInt.toNat = b := by omega
    refine xild2 17 ⟨u326, _, rfl⟩ rfl rfl ?_
    refine xild 18 ⟨u326, _, rfl⟩ rfl rfl ?_
    refine xcmp_ge 21 ⟨u326, _, rfl⟩ rfl (fun c18 => ?_) (fun c18 => ?_)
    · omega
    · refine xild 22 ⟨u326, _, rfl⟩ rfl rfl ?_
      refine xild 23 ⟨u326, _, rfl⟩ rfl rfl ?_
      refine xshr 24 ⟨u326, _, rfl⟩ rfl ?_
      refine xcst 25 (1) ⟨u326, _, rfl⟩ rfl (by decide) (fun z24 h24 => ?_)
      refine xand 26 ⟨u326, _, rfl⟩ rfl ?_
      refine xcst 27 (1) ⟨u326, _, rfl⟩ rfl (by decide) (fun z26 h26 => ?_)
      have w1 := i_shr hw (by omega) hwa (by omega)
      have w2 := i_and w1.1 (b := 1) h24 w1.2
      rw [bit_1] at w2
      refine xcmp_ne 30 ⟨u326, _, rfl⟩ rfl (fun c27 => ?_) (fun c27 => ?_)
      · have na : ¬ ms.testBit a = true := fun g => by
          have g2 := hI.1 a g
          rw [g2, show Bool.toNat true = 1 from rfl] at w2
          omega
        refine xcst 45 (0) ⟨u326, _, rfl⟩ rfl (by decide) (fun z44 h44 => ?_)
        refine xist2 47 ⟨u326, _, rfl⟩ rfl rfl ?_
        refine xild2 49 ⟨u326, _, rfl⟩ rfl rfl ?_
        refine xif_eq 52 ⟨u326, _, rfl⟩ rfl (fun c49 => ?_) (fun c49 => ?_)
        · refine xinc 78 (1) ⟨u326, _, rfl⟩ rfl rfl rfl (by decide) (by omega) (by omega) (fun z75 h75 => ?_)
          refine xgoto ⟨u326, _, rfl⟩ ?_
          refine ih (b + 1) m _ _ _ (by omega) (by omega) hw hm hI (fun x y u g1 g2 g3 g4 g5 => ?_)
          by_cases g : x = a ∧ y = b
          · exact absurd g3 (by rw [g.1]; exact na)
          · exact hc x y u g1 (by omega) g3 g4 g5
        · omega
      · have ba : m.testBit a = true := by
          cases e : m.testBit a with
          | true => rfl
          | false => rw [e, show Bool.toNat false = 0 from rfl] at w2; omega
        refine xild 31 ⟨u326, _, rfl⟩ rfl rfl ?_
        refine xild2 33 ⟨u326, _, rfl⟩ rfl rfl ?_
        refine xshr 34 ⟨u326, _, rfl⟩ rfl ?_
        refine xcst 35 (1) ⟨u326, _, rfl⟩ rfl (by decide) (fun z34 h34 => ?_)
        refine xand 36 ⟨u326, _, rfl⟩ rfl ?_
        refine xcst 37 (1) ⟨u326, _, rfl⟩ rfl (by decide) (fun z36 h36 => ?_)
        have w3 := i_shr hw (by omega) hwb (by omega)
        have w4 := i_and w3.1 (b := 1) h34 w3.2
        rw [bit_1] at w4
        refine xcmp_ne 40 ⟨u326, _, rfl⟩ rfl (fun c37 => ?_) (fun c37 => ?_)
        · have nb : ¬ ms.testBit b = true := fun g => by
            have g2 := hI.1 b g
            rw [g2, show Bool.toNat true = 1 from rfl] at w4
            omega
          refine xcst 45 (0) ⟨u326, _, rfl⟩ rfl (by decide) (fun z44 h44 => ?_)
          refine xist2 47 ⟨u326, _, rfl⟩ rfl rfl ?_
          refine xild2 49 ⟨u326, _, rfl⟩ rfl rfl ?_
          refine xif_eq 52 ⟨u326, _, rfl⟩ rfl (fun c49 => ?_) (fun c49 => ?_)
          · refine xinc 78 (1) ⟨u326, _, rfl⟩ rfl rfl rfl (by decide) (by omega) (by omega) (fun z75 h75 => ?_)
            refine xgoto ⟨u326, _, rfl⟩ ?_
            refine ih (b + 1) m _ _ _ (by omega) (by omega) hw hm hI (fun x y u g1 g2 g3 g4 g5 => ?_)
            by_cases g : x = a ∧ y = b
            · exact absurd g4 (by rw [g.2]; exact nb)
            · exact hc x y u g1 (by omega) g3 g4 g5
          · omega
        · have bb : m.testBit b = true := by
            cases e : m.testBit b with
            | true => rfl
            | false => rw [e, show Bool.toNat false = 0 from rfl] at w4; omega
          refine xcst 41 (1) ⟨u326, _, rfl⟩ rfl (by decide) (fun z40 h40 => ?_)
          refine xgoto ⟨u326, _, rfl⟩ ?_
          refine xist2 47 ⟨u326, _, rfl⟩ rfl rfl ?_
          refine xild2 49 ⟨u326, _, rfl⟩ rfl rfl ?_
          refine xif_eq 52 ⟨u326, _, rfl⟩ rfl (fun c49 => ?_) (fun c49 => ?_)
          · omega
          · refine xald 53 ⟨u326, _, rfl⟩ rfl rfl ?_
            refine xild 54 ⟨u326, _, rfl⟩ rfl rfl ?_
            refine xild2 56 ⟨u326, _, rfl⟩ rfl rfl ?_
            refine xcall 59 [.ref 66, .int _, .int _] [] hH ⟨u326, _, rfl⟩ rfl rfl rfl rfl rfl (k_third hH (by omega) (by omega) (by omega) (by omega) (fun z56 h56 => ⟨_, rfl, ?_⟩))
            have h56 := h56.trans (hB.2.2.1 _ _ (by omega) (by omega))
            rw [ea, eb] at h56
            refine xcst 60 (-1) ⟨u326, _, rfl⟩ rfl (by decide) (fun z59 h59 => ?_)
            refine xcmp_eq 63 ⟨u326, _, rfl⟩ rfl (fun c60 => ?_) (fun c60 => ?_)
            · have t1 : T a b = -1 := by omega
              refine xinc 78 (1) ⟨u326, _, rfl⟩ rfl rfl rfl (by decide) (by omega) (by omega) (fun z75 h75 => ?_)
              refine xgoto ⟨u326, _, rfl⟩ ?_
              refine ih (b + 1) m _ _ _ (by omega) (by omega) hw hm hI (fun x y u g1 g2 g3 g4 g5 => ?_)
              by_cases g : x = a ∧ y = b
              · exact absurd g5 (by rw [g.1, g.2, t1]; omega)
              · exact hc x y u g1 (by omega) g3 g4 g5
            · refine xild 64 ⟨u326, _, rfl⟩ rfl rfl ?_
              refine xcst 65 (1) ⟨u326, _, rfl⟩ rfl (by decide) (fun z64 h64 => ?_)
              refine xald 66 ⟨u326, _, rfl⟩ rfl rfl ?_
              refine xild 67 ⟨u326, _, rfl⟩ rfl rfl ?_
              refine xild2 69 ⟨u326, _, rfl⟩ rfl rfl ?_
              refine xcall 72 [.ref 66, .int _, .int _] [.int _, .int _] hH ⟨u326, _, rfl⟩ rfl rfl rfl rfl rfl (k_third hH (by omega) (by omega) (by omega) (by omega) (fun z69 h69 => ⟨_, rfl, ?_⟩))
              have h69 := h69.trans (hB.2.2.1 _ _ (by omega) (by omega))
              rw [ea, eb] at h69
              refine xshl 73 ⟨u326, _, rfl⟩ rfl ?_
              obtain ⟨c, ec, k1, k2, k3, -⟩ := sOk_at hT (show T a b = T a b from rfl) (by omega)
              have e72 := i_shl h64 (n := c) (c := z69) (by omega) (by omega)
              have e73 := i_or hw e72.1 (by omega) e72.2
              refine xor_ 74 ⟨u326, _, rfl⟩ rfl ?_
              refine xist 75 ⟨u326, _, rfl⟩ rfl rfl ?_
              refine xinc 78 (1) ⟨u326, _, rfl⟩ rfl rfl rfl (by decide) (by omega) (by omega) (fun z75 h75 => ?_)
              refine xgoto ⟨u326, _, rfl⟩ ?_
              refine ih (b + 1) (m ||| 2 ^ c) _ _ _ (by omega) (by omega) e73.1 (clI_l (ms := ms) hT hm (by omega)) (clI_T hT hI (show T a b = (c : Int) by omega) ba bb) (fun x y u g1 g2 g3 g4 g5 => ?_)
              rw [Nat.testBit_or, Nat.testBit_two_pow, Bool.or_eq_true, decide_eq_true_iff]
              by_cases g : x = a ∧ y = b
              · obtain ⟨rfl, rfl⟩ := g
                exact Or.inr (by omega)
              · exact Or.inl (hc x y u g1 (by omega) g3 g4 g5)
theorem l326a {d V ms : Nat} {T : sT} {hp : amH} {R : xQ} {s : Int32} (hH : bHk 84 bTT hp) (hB : rdOk hp V T)
    (hQ : ∀ (m : Nat) (w wa : Int32) (v4 v5 : Option Value), w.toInt = (m : Int) → m < 2 ^ V → clI T ms m → rcI T ms m V 0 → xV (d + 1) am_m326 87 [some (.ref 66), some (.int s), some (.int w), some (.int wa), v4, v5] [] hp R) :
    ∀ (jj a m : Nat) (w wa : Int32) (v4 v5 : Option Value), wa.toInt = (a : Int) → a + jj = V → w.toInt = (m : Int) → m < 2 ^ V → clI T ms m → rcI T ms m a 0 → xV (d + 1) am_m326 4 [some (.ref 66), some (.int s), some (.int w), some (.int wa), v4, v5] [] hp R := by
  have hT := hB.2.1
  have b0 : rN hp 67 0 = (V : Int) := hB.1
  have hV := hT.2.1
  intro jj
  induction jj with
  | zero =>
    intro a m w wa v4 v5 hwa hj hw hm hI hc
    obtain rfl : a = V := by omega
    refine xild 5 ⟨u326, _, rfl⟩ rfl rfl ?_
    refine xald 6 ⟨u326, _, rfl⟩ rfl rfl ?_
    refine xcall 9 [.ref 66] [.int _] hH ⟨u326, _, rfl⟩ rfl rfl rfl rfl rfl (k_points hH (fun z6 h6 => ⟨_, rfl, ?_⟩))
    refine xcmp_ge 12 ⟨u326, _, rfl⟩ rfl (fun c9 => ?_) (fun c9 => ?_)
    · exact hQ m _ _ _ _ hw hm hI hc
    · omega
  | succ jj ih =>
    intro a m w wa v4 v5 hwa hj hw hm hI hc
    refine xild 5 ⟨u326, _, rfl⟩ rfl rfl ?_
    refine xald 6 ⟨u326, _, rfl⟩ rfl rfl ?_
    refine xcall 9 [.ref 66] [.int _] hH ⟨u326, _, rfl⟩ rfl rfl rfl rfl rfl (k_points hH (fun z6 h6 => ⟨_, rfl, ?_⟩))
    refine xcmp_ge 12 ⟨u326, _, rfl⟩ rfl (fun c9 => ?_) (fun c9 => ?_)
    · omega
    · refine xcst 13 (0) ⟨u326, _, rfl⟩ rfl (by decide) (fun z12 h12 => ?_)
      refine xist2 15 ⟨u326, _, rfl⟩ rfl rfl ?_
      refine l326b (ms := ms) (s := s) hH hB hwa (by omega) (fun m1 w1 wb v5 q1 q2 q3 q4 => ?_) a 0 m _ _ _ h12 (by omega) hw hm hI hc
      refine xinc 84 (1) ⟨u326, _, rfl⟩ rfl rfl rfl (by decide) (by omega) (by omega) (fun z81 h81 => ?_)
      refine xgoto ⟨u326, _, rfl⟩ ?_
      exact ih (a + 1) m1 _ _ _ _ (by omega) (by omega) q1 q2 q3 q4
theorem k_326E {V : Nat} {T : sT} {hp : amH} (hH : bHk 84 bTT hp) (hB : rdOk hp V T) : ∀ (j ms d : Nat) (R : xQ) (s : Int32), s.toInt = (ms : Int) → ms < 2 ^ V → 15 ≤ pq ms + j →
    (∀ (z : Int32) (m : Nat), z.toInt = (m : Int) → clP T ms m → R (.inl (some (.int z))) hp) → xK (d + 1 + j) 326 [.ref 66, .int s] hp R := by
  have hT := hB.2.1
  have hV := hT.2.1
  have p15 : 2 ^ V ≤ 2 ^ 15 := Nat.pow_le_pow_right (by decide) hV
  intro j
  induction j with
  | zero =>
    intro ms d R s hs hm h15 hR
    refine xin (M := am_m326) rfl rfl rfl ?_
    refine xild 1 ⟨u326, _, rfl⟩ rfl rfl ?_
    refine xist 2 ⟨u326, _, rfl⟩ rfl rfl ?_
    refine xcst 3 (0) ⟨u326, _, rfl⟩ rfl (by decide) (fun z2 h2 => ?_)
    refine xist 4 ⟨u326, _, rfl⟩ rfl rfl ?_
    refine xpad 2 ?_
    refine l326a (d := d) (ms := ms) (s := s) hH hB (fun m w wa v4 v5 q1 q2 q3 q4 => ?_) V 0 ms _ _ _ _ h2 (by omega) hs hm ⟨fun i g => g, fun x g1 g2 => g1⟩ (fun x y c g1 g2 => absurd g2 (by omega))
    refine xild 88 ⟨u326, _, rfl⟩ rfl rfl ?_
    refine xild 89 ⟨u326, _, rfl⟩ rfl rfl ?_
    refine xcmp_ne 92 ⟨u326, _, rfl⟩ rfl (fun c89 => ?_) (fun c89 => ?_)
    · have ne : ¬ m = ms := by omega
      refine absurd (Nat.eq_of_testBit_eq (fun i => ?_)) ne
      by_cases g : i < 15
      · rw [q3.1 i (pq_all (by omega) (by omega) g), pq_all (by omega) (by omega) g]
      · rw [Nat.testBit_lt_two_pow (Nat.lt_of_lt_of_le q2 (Nat.pow_le_pow_right (by decide) (by omega))), Nat.testBit_lt_two_pow (Nat.lt_of_lt_of_le hm (Nat.pow_le_pow_right (by decide) (by omega)))]
    · have em : m = ms := by omega
      refine xild 93 ⟨u326, _, rfl⟩ rfl rfl ?_
      refine xgoto ⟨u326, _, rfl⟩ ?_
      exact xret ⟨u326, _, rfl⟩ rfl (hR _ ms hs ⟨fun i g => g, cz_B hT (fun a b c g1 g2 g3 g4 g5 => by rw [← em]; exact q4 a b c g1 (Or.inl g2) g3 g4 g5), fun x g1 g2 => g1⟩)
  | succ j ih =>
    intro ms d R s hs hm h15 hR
    refine xin (M := am_m326) rfl rfl rfl ?_
    refine xild 1 ⟨u326, _, rfl⟩ rfl rfl ?_
    refine xist 2 ⟨u326, _, rfl⟩ rfl rfl ?_
    refine xcst 3 (0) ⟨u326, _, rfl⟩ rfl (by decide) (fun z2 h2 => ?_)
    refine xist 4 ⟨u326, _, rfl⟩ rfl rfl ?_
    refine xpad 2 ?_
    refine l326a (d := d + 1 + j) (ms := ms) (s := s) hH hB (fun m w wa v4 v5 q1 q2 q3 q4 => ?_) V 0 ms _ _ _ _ h2 (by omega) hs hm ⟨fun i g => g, fun x g1 g2 => g1⟩ (fun x y c g1 g2 => absurd g2 (by omega))
    refine xild 88 ⟨u326, _, rfl⟩ rfl rfl ?_
    refine xild 89 ⟨u326, _, rfl⟩ rfl rfl ?_
    refine xcmp_ne 92 ⟨u326, _, rfl⟩ rfl (fun c89 => ?_) (fun c89 => ?_)
    · have ne : ¬ m = ms := by omega
      have up : pq ms < pq m := by
        apply Classical.byContradiction
        intro g
        refine ne (Nat.eq_of_testBit_eq (fun i => ?_))
        cases e : ms.testBit i with
        | true => exact q3.1 i e
        | false =>
          cases f : m.testBit i with
          | false => rfl
          | true => exact absurd (pq_lt (k := i) q3.1 (sub_full (by omega) f) (by rw [e]; decide) f) g
      refine xald 97 ⟨u326, _, rfl⟩ rfl rfl ?_
      refine xild 98 ⟨u326, _, rfl⟩ rfl rfl ?_
      refine xcall 101 [.ref 66, .int _] [] hH ⟨u326, _, rfl⟩ rfl rfl rfl rfl rfl (ih m d _ _ q1 q2 (by omega) (fun z98 m98 h98 g98 => ⟨_, rfl, ?_⟩))
      exact xret ⟨u326, _, rfl⟩ rfl (hR _ m98 h98 ⟨fun i g => g98.1 i (q3.1 i g), g98.2.1, fun x g1 g2 => g98.2.2 x (q3.2 x g1 g2) g2⟩)
    · have em : m = ms := by omega
      refine xild 93 ⟨u326, _, rfl⟩ rfl rfl ?_
      refine xgoto ⟨u326, _, rfl⟩ ?_
      exact xret ⟨u326, _, rfl⟩ rfl (hR _ ms hs ⟨fun i g => g, cz_B hT (fun a b c g1 g2 g3 g4 g5 => by rw [← em]; exact q4 a b c g1 (Or.inl g2) g3 g4 g5), fun x g1 g2 => g1⟩)
theorem k_327E {d V n : Nat} {h : Nat → sR} {sv : Option sR} {T : sT} {ty : Nat → Int} {hp : amH} {R : xQ} {s : Int32} (hH : bHk 84 bTT hp) (hP : P0 hp) (hS : rfS hp (V, T, ty) n h sv)
    (hR : ∀ (z : Int32) hp1, bHk 84 bTT hp1 → P0 hp1 → bFr wM hp hp1 → rN hp1 66 7 = gCl V s.toInt → ((¬ gCl V s.toInt = 0 ∧ rfS hp1 (V, T, ty) n h sv) ∨ (gCl V s.toInt = 0 ∧ rfS hp1 (V, T, ty) n h sv ∧ z.toInt = ((clN T s.toInt.toNat : Nat) : Int))) → R (.inl (some (.int z))) hp1) : xK (d + 20) 327 [.ref 66, .int s] hp R := by
  have hB : rdOk hp V T := rowOk_rd hS.1
  have b0 : rN hp 67 0 = (V : Int) := hB.1
  have hT0 : sOk V T := hB.2.1
  have h15 : V ≤ 15 := hT0.2.1
  have l35 : (trL T 225).length ≤ 35 := trL_35 hT0 225
  have p15 : 2 ^ V ≤ 2 ^ 15 := Nat.pow_le_pow_right (by decide) h15
  have g01 : gCl V s.toInt = 0 ∨ gCl V s.toInt = 1 := Classical.or_iff_not_imp_left.mpr gCl_1
  refine xin (M := am_m327) rfl rfl rfl ?_
  refine xald 1 ⟨u327, _, rfl⟩ rfl rfl ?_
  refine xcst 2 (0) ⟨u327, _, rfl⟩ rfl (by decide) (fun z1 h1 => ?_)
  refine xputI 5 hH ⟨u327, _, rfl⟩ rfl rfl ⟨rfl, rfl⟩ (by omega) (by omega) (fun hp2 hH2 U2 => ?_)
  have s2 := U2.1
  have S2 := rfS_W (W := [(66, 7)]) hS (rU_fr U2 rfl) (fun _ => rfl) rfl rfl (fun _ => rfl) (fun _ => rfl)
  have P2 := P0_W (W := [(66, 7)]) (by decide) (rU_fr U2 rfl) hP
  have B2 : rdOk hp2 V T := rowOk_rd S2.1
  have b2 : rN hp2 67 0 = (V : Int) := B2.1
  refine xald 6 ⟨u327, _, rfl⟩ rfl rfl ?_
  refine xild 7 ⟨u327, _, rfl⟩ rfl rfl ?_
  refine xif_lt 10 ⟨u327, _, rfl⟩ rfl (fun c7 => ?_) (fun c7 => ?_)
  · have g1 : gCl V s.toInt = 1 := gCl_1 (fun w => by have := gCl_0.mp w; omega)
    refine xcst 20 (1) ⟨u327, _, rfl⟩ rfl (by decide) (fun z19 h19 => ?_)
    refine xgoto ⟨u327, _, rfl⟩ ?_
    refine xcst 25 (1) ⟨u327, _, rfl⟩ rfl (by decide) (fun z24 h24 => ?_)
    refine xcall 28 [.ref 66, .int _, .int _] [] hH2 ⟨u327, _, rfl⟩ rfl rfl rfl rfl rfl (k_failsE hH2 (by omega) (fun hp25 hH25 V25 => ⟨_, rfl, ?_⟩))
    refine xif_eq 31 ⟨u327, _, rfl⟩ rfl (fun c28 => ?_) (fun c28 => ?_)
    · rcases V25 with ⟨q1, -⟩ | ⟨q1, -⟩ <;> omega
    · refine xcst 32 (0) ⟨u327, _, rfl⟩ rfl (by decide) (fun z31 h31 => ?_)
      refine xgoto ⟨u327, _, rfl⟩ ?_
      rcases V25 with ⟨q1, -⟩ | ⟨q1, U⟩
      · omega
      · exact xret ⟨u327, _, rfl⟩ rfl (hR _ hp25 hH25 (P0_W (W := [(66, 7)]) (by decide) (rU_fr U rfl) P2) ((rU_fr U2 (by decide)).trans (rU_fr U (by decide))) (by rw [U.1, g1]; omega) (Or.inl ⟨by rw [g1]; decide, rfS_W (W := [(66, 7)]) S2 (rU_fr U rfl) (fun _ => rfl) rfl rfl (fun _ => rfl) (fun _ => rfl)⟩))
  · refine xild 11 ⟨u327, _, rfl⟩ rfl rfl ?_
    refine xald 12 ⟨u327, _, rfl⟩ rfl rfl ?_
    refine xcall 15 [.ref 66] [.int _, .ref 66] hH2 ⟨u327, _, rfl⟩ rfl rfl rfl rfl rfl (k_points hH2 (fun z12 h12 => ⟨_, rfl, ?_⟩))
    refine xshr 16 ⟨u327, _, rfl⟩ rfl ?_
    have e15 := i_shrG (x := s) (c := z12) (a := s.toInt.toNat) (n := V) (by omega) (by omega) (by omega)
    rw [Nat.shiftRight_eq_div_pow] at e15
    refine xif_eq 19 ⟨u327, _, rfl⟩ rfl (fun c16 => ?_) (fun c16 => ?_)
    · have g0 : gCl V s.toInt = 0 := gCl_0.mpr ⟨by omega, by
        have := (Nat.div_eq_zero_iff.mp (show s.toInt.toNat / 2 ^ V = 0 by omega)).resolve_left (by have := Nat.two_pow_pos V; omega)
        omega⟩
      have k0 := gCl_0.mp g0
      refine xcst 24 (0) ⟨u327, _, rfl⟩ rfl (by decide) (fun z23 h23 => ?_)
      refine xcst 25 (1) ⟨u327, _, rfl⟩ rfl (by decide) (fun z24 h24 => ?_)
      refine xcall 28 [.ref 66, .int _, .int _] [] hH2 ⟨u327, _, rfl⟩ rfl rfl rfl rfl rfl (k_failsE hH2 (by omega) (fun hp25 hH25 V25 => ⟨_, rfl, ?_⟩))
      refine xif_eq 31 ⟨u327, _, rfl⟩ rfl (fun c28 => ?_) (fun c28 => ?_)
      · obtain rfl : hp2 = hp25 := by
          rcases V25 with ⟨q1, e⟩ | ⟨q1, -⟩
          · exact e.symm
          · omega
        refine xald 36 ⟨u327, _, rfl⟩ rfl rfl ?_
        refine xild 37 ⟨u327, _, rfl⟩ rfl rfl ?_
        refine xcall 40 [.ref 66, .int _] [] hH25 ⟨u327, _, rfl⟩ rfl rfl rfl rfl rfl (k_326E (d := d + 3) hH2 B2 15 s.toInt.toNat _ _ (by omega) (by omega) (by omega) (fun z37 m37 h37 g37 => ⟨_, rfl, ?_⟩))
        exact xret ⟨u327, _, rfl⟩ rfl (hR _ hp2 hH2 P2 (rU_fr U2 (by decide)) (by rw [U2.1, g0]; exact h1) (Or.inr ⟨g0, S2, by rw [clN_e g37]; exact h37⟩))
      · rcases V25 with ⟨q1, -⟩ | ⟨q1, -⟩ <;> omega
    · have g1 : gCl V s.toInt = 1 := gCl_1 (fun w => by
        have k := gCl_0.mp w
        have := Nat.div_eq_of_lt (show s.toInt.toNat < 2 ^ V by omega)
        omega)
      refine xcst 20 (1) ⟨u327, _, rfl⟩ rfl (by decide) (fun z19 h19 => ?_)
      refine xgoto ⟨u327, _, rfl⟩ ?_
      refine xcst 25 (1) ⟨u327, _, rfl⟩ rfl (by decide) (fun z24 h24 => ?_)
      refine xcall 28 [.ref 66, .int _, .int _] [] hH2 ⟨u327, _, rfl⟩ rfl rfl rfl rfl rfl (k_failsE hH2 (by omega) (fun hp25 hH25 V25 => ⟨_, rfl, ?_⟩))
      refine xif_eq 31 ⟨u327, _, rfl⟩ rfl (fun c28 => ?_) (fun c28 => ?_)
      · rcases V25 with ⟨q1, -⟩ | ⟨q1, -⟩ <;> omega
      · refine xcst 32 (0) ⟨u327, _, rfl⟩ rfl (by decide) (fun z31 h31 => ?_)
        refine xgoto ⟨u327, _, rfl⟩ ?_
        rcases V25 with ⟨q1, -⟩ | ⟨q1, U⟩
        · omega
        · exact xret ⟨u327, _, rfl⟩ rfl (hR _ hp25 hH25 (P0_W (W := [(66, 7)]) (by decide) (rU_fr U rfl) P2) ((rU_fr U2 (by decide)).trans (rU_fr U (by decide))) (by rw [U.1, g1]; omega) (Or.inl ⟨by rw [g1]; decide, rfS_W (W := [(66, 7)]) S2 (rU_fr U rfl) (fun _ => rfl) rfl rfl (fun _ => rfl) (fun _ => rfl)⟩))
theorem h377E {d : Nat} {hp : amH} {R : cQ} {x1 : Int32} {V n : Nat} {h : Nat → sR} {sv : Option sR} {T : sT} {ty : Nat → Int} (hI : lawI hp) (c : clS hp (V, T, ty) n h sv) (r : rfS hp (V, T, ty) n h sv)
    (hR : ∀ (z : Int32) hp1 mc ms, lawI hp1 → rfS hp1 (V, T, ty) n h sv → z.toInt = gCl V x1.toInt → ((¬ gCl V x1.toInt = 0 ∧ clS hp1 (V, T, ty) n h sv) ∨ (gCl V x1.toInt = 0 ∧ clS hp1 (V, T, ty) n h sv ∧ rJ hp1 83 0 = ((clN T x1.toInt.toNat : Nat) : Int))) → mc ≤ 1 → ms ≤ 6 → R (.inl (some (.int z))) hp1 mc ms) : cK (d + 20) 377 [.ref 0, .int x1, .ref 83] hp R := by
  refine cin (M := am_m377) rfl rfl rfl ?_
  refine cald 1 ⟨u377J, _, rfl⟩ rfl rfl ?_
  refine ccst 2 (0) ⟨u377J, _, rfl⟩ rfl (by decide) (fun z1 h1 => ?_)
  refine cald 3 ⟨u377J, _, rfl⟩ rfl rfl ?_
  refine cild 4 ⟨u377J, _, rfl⟩ rfl rfl ?_
  refine ccall (kd := 0) (t := 1) [.ref 0, .int _] [.int _, .ref 83] hI.1 ⟨u377J, _, rfl⟩ (Or.inl ⟨_, rfl, rfl, by decide, by decide⟩) rfl rfl rfl ⟨rfl, rfl, rfl⟩ rfl (recv0 hI.1 _) rfl (qKE (Φ := fun z hp1 => bHk 84 bTT hp1 ∧ cF hp hp1 ∧ gCl V x1.toInt = 0 ∧ clS hp1 (V, T, ty) n h sv ∧ z.toInt = ((clN T x1.toInt.toNat : Nat) : Int)) (Ψ := fun E hp1 => lawI hp1 ∧ rfS hp1 (V, T, ty) n h sv ∧ clS hp1 (V, T, ty) n h sv ∧ ¬ gCl V x1.toInt = 0 ∧ ((gCl V x1.toInt = 1 ∧ E = 0))) (fun R g1 g2 => k_162E (d := d + 15) hI.1 c (fun E hp1 b1 b2 b3 e1 e2 => g2 E hp1 ⟨law_cl hI b1 b2, cF_rf b2 r, b3, e1, e2⟩) (fun z hp1 a1 a2 a3 a4 a5 => g1 z hp1 ⟨a1, a2, a3, a4, a5⟩)) (fun z hp1 φ => Or.inl ⟨_, rfl, ?_⟩) (fun E hp1 ψ => Or.inr ?_))
  · refine ci2lE 8 ⟨u377J, _, rfl⟩ rfl (fun w hw => ?_)
    refine clastE 9 φ.1 ⟨u377J, _, rfl⟩ rfl h1 (fun hp2 hH2 F2 J2 => ?_)
    refine cgoto ⟨u377J, _, rfl⟩ ?_
    refine ccst 16 (0) ⟨u377J, _, rfl⟩ rfl (by decide) (fun z9 h9 => ?_)
    exact cret ⟨u377J, _, rfl⟩ (Or.inl rfl) (hR _ _ _ _ (lawI_83 (law_cl hI φ.1 φ.2.1) hH2 F2) (rf_83 F2 (cF_rf φ.2.1 r)) (by rw [φ.2.2.1]; exact h9) (Or.inr ⟨φ.2.2.1, cl_83 F2 φ.2.2.2.1, by rw [J2, hw]; exact φ.2.2.2.2⟩) (by decide) (by decide))
  · obtain ⟨ψ0, ψr, ψc, ψ1, ψ2⟩ := ψ
    obtain ⟨ce, rfl⟩ := ψ2
    refine ⟨0, 12, 3, 13, rfl, rfl, rfl, rfl, ?_⟩
    refine ccst 14 (1) ⟨u377J, _, rfl⟩ rfl (by decide) (fun z9 h9 => ?_)
    exact cret ⟨u377J, _, rfl⟩ (Or.inl rfl) (hR _ _ _ _ ψ0 ψr (by rw [ce]; exact h9) (Or.inl ⟨ψ1, ψc⟩) (by decide) (by decide))
end
/-! ##### q53 ##### -/
section
/-! ===== independent on both sides ===== -/
/-- a triple of the first t lies in a set -/
def inB (T : sT) (m t : Nat) : Prop := ∃ s, s < t ∧ mN T s &&& m = mN T s
theorem inB_s {T : sT} {m t : Nat} (h : ¬ inB T m t) (h2 : ¬ mN T t &&& m = mN T t) : ¬ inB T m (t + 1) := fun ⟨s, hs, e⟩ => by
  by_cases g : s = t
  · rw [g] at e; exact h2 e
  · exact h ⟨s, by omega, e⟩
theorem nd_zero {a b : Nat} : ndif a b = 0 ↔ a &&& b = a := by
  constructor
  · intro h
    apply Nat.eq_of_testBit_eq
    intro i
    have k := nd_test a b i
    rw [h, Nat.zero_testBit] at k
    rw [Nat.testBit_and]
    cases g : a.testBit i <;> cases g2 : b.testBit i <;> simp_all
  · intro h
    apply Nat.eq_of_testBit_eq
    intro i
    have k : (a &&& b).testBit i = a.testBit i := congrArg (fun n => n.testBit i) h
    rw [Nat.testBit_and] at k
    rw [nd_test, Nat.zero_testBit]
    cases g : a.testBit i <;> cases g2 : b.testBit i <;> simp_all
/-- the best of the first sets: the most points, no triple in it -/
noncomputable def inF (V : Nat) (T : sT) : Nat → Nat
  | 0 => 0
  | n + 1 => by
    classical
    exact if bcN (inF V T n) < bcN n ∧ ¬ inB T n (trL T 225).length then n else inF V T n
theorem inF_1 {V : Nat} {T : sT} {n : Nat} (h : bcN (inF V T n) < bcN n ∧ ¬ inB T n (trL T 225).length) : inF V T (n + 1) = n := by
  classical
  show (if _ then _ else _) = _
  exact if_pos h
theorem inF_0 {V : Nat} {T : sT} {n : Nat} (h : ¬ (bcN (inF V T n) < bcN n ∧ ¬ inB T n (trL T 225).length)) : inF V T (n + 1) = inF V T n := by
  classical
  show (if _ then _ else _) = _
  exact if_neg h
theorem inF_lt {V : Nat} {T : sT} : ∀ n, inF V T n < n + 1
  | 0 => Nat.lt_succ_self 0
  | n + 1 => by
    have h := inF_lt (V := V) (T := T) n
    by_cases g : bcN (inF V T n) < bcN n ∧ ¬ inB T n (trL T 225).length
    · rw [inF_1 g]; omega
    · rw [inF_0 g]; omega
theorem bcN_0 : bcN 0 = 0 := by decide +kernel
theorem inF_b {V : Nat} {T : sT} : inF V T 1 = 0 := inF_0 (fun z => by have := z.1; rw [show inF V T 0 = 0 from rfl] at this; omega)
theorem u34 : bUp 0 am_m34.1 = true := by decide +kernel
theorem u330 : bUp 0 am_m330.1 = true := by decide +kernel
theorem l34E {d m V : Nat} {T : sT} {hp : amH} {R : xQ} {s : Int32} (hH : bHk 84 bTT hp) (hL : lsN hp 3 T 225) (hT : sOk V T) (hs : s.toInt = (m : Int)) (hm : m < 32768)
    (hR : ∀ z : Int32, ((z.toInt = 1 ∧ inB T m (trL T 225).length) ∨ (z.toInt = 0 ∧ ¬ inB T m (trL T 225).length)) → R (.inl (some (.int z))) hp) :
    ∀ (jj t : Nat) (wt : Int32), wt.toInt = (t : Int) → t + jj = (trL T 225).length → ¬ inB T m t → xV (d + 1) am_m34 2 [some (.ref 3), some (.int s), some (.int wt)] [] hp R := by
  have l35 := trL_35 hT 225
  have L1 := hL.1
  intro jj
  induction jj with
  | zero =>
    intro t wt hwt hj hc
    have et : (trL T 225).length = t := by omega
    refine xild 3 ⟨u34, _, rfl⟩ rfl rfl ?_
    refine xald 4 ⟨u34, _, rfl⟩ rfl rfl ?_
    refine xgetC 7 hH ⟨u34, _, rfl⟩ rfl (by decide) (by decide) rfl rfl (by decide) (fun z4 h4 => ?_)
    refine xcmp_ge 10 ⟨u34, _, rfl⟩ rfl (fun c7 => ?_) (fun c7 => ?_)
    · refine xcst 31 (0) ⟨u34, _, rfl⟩ rfl (by decide) (fun z30 h30 => ?_)
      exact xretB ⟨u34, _, rfl⟩ rfl (by omega) (hR _ (Or.inr ⟨by omega, by rw [et]; exact hc⟩))
    · omega
  | succ jj ih =>
    intro t wt hwt hj hc
    have ml := (mN_lt hT (show t < (trL T 225).length by omega)).1
    refine xild 3 ⟨u34, _, rfl⟩ rfl rfl ?_
    refine xald 4 ⟨u34, _, rfl⟩ rfl rfl ?_
    refine xgetC 7 hH ⟨u34, _, rfl⟩ rfl (by decide) (by decide) rfl rfl (by decide) (fun z4 h4 => ?_)
    refine xcmp_ge 10 ⟨u34, _, rfl⟩ rfl (fun c7 => ?_) (fun c7 => ?_)
    · omega
    · refine xald 11 ⟨u34, _, rfl⟩ rfl rfl ?_
      refine xild 12 ⟨u34, _, rfl⟩ rfl rfl ?_
      refine xcallC 15 (o := 3) [.int _] [] hH ⟨u34, _, rfl⟩ rfl rfl (by decide) rfl (by decide) rfl ⟨rfl, rfl, rfl, rfl⟩ rfl (k_setL hH hL (t := t) hwt (by omega) (fun z12 h12 => ⟨_, rfl, ?_⟩))
      refine xild 16 ⟨u34, _, rfl⟩ rfl rfl ?_
      refine xcst 17 (-1) ⟨u34, _, rfl⟩ rfl (by decide) (fun z16 h16 => ?_)
      refine xxor 18 ⟨u34, _, rfl⟩ rfl ?_
      refine xand 19 ⟨u34, _, rfl⟩ rfl ?_
      have e18 := i_nd h12 hs ml (by omega) h16
      refine xif_ne 22 ⟨u34, _, rfl⟩ rfl (fun c19 => ?_) (fun c19 => ?_)
      · refine xinc 27 (1) ⟨u34, _, rfl⟩ rfl rfl rfl (by decide) (by omega) (by omega) (fun z24 h24 => ?_)
        refine xgoto ⟨u34, _, rfl⟩ ?_
        exact ih (t + 1) _ (by omega) (by omega) (inB_s hc (fun z => by have z := nd_zero.mpr z; omega))
      · refine xcst 23 (1) ⟨u34, _, rfl⟩ rfl (by decide) (fun z22 h22 => ?_)
        exact xretB ⟨u34, _, rfl⟩ rfl (by omega) (hR _ (Or.inl ⟨by omega, t, by omega, nd_zero.mp (by omega)⟩))
theorem k_34E {d m V : Nat} {T : sT} {hp : amH} {R : xQ} {s : Int32} (hH : bHk 84 bTT hp) (hL : lsN hp 3 T 225) (hT : sOk V T) (hs : s.toInt = (m : Int)) (hm : m < 32768)
    (hR : ∀ z : Int32, ((z.toInt = 1 ∧ inB T m (trL T 225).length) ∨ (z.toInt = 0 ∧ ¬ inB T m (trL T 225).length)) → R (.inl (some (.int z))) hp) : xK (d + 1) 34 [.ref 3, .int s] hp R := by
  refine xin (M := am_m34) rfl rfl rfl ?_
  refine xcst 1 (0) ⟨u34, _, rfl⟩ rfl (by decide) (fun z0 h0 => ?_)
  refine xist 2 ⟨u34, _, rfl⟩ rfl rfl ?_
  exact l34E hH hL hT hs hm hR (trL T 225).length 0 _ h0 (by omega) (fun ⟨s, hs, _⟩ => absurd hs (Nat.not_lt_zero s))
theorem l330E {d m V : Nat} {T : sT} {hp : amH} {R : xQ} {s : Int32} (hH : bHk 84 bTT hp) (hL : rlN hp T 225) (hT : sOk V T) (hs : s.toInt = (m : Int)) (hm : m < 32768)
    (hR : ∀ z : Int32, ((z.toInt = 0 ∧ inB T m (trL T 225).length) ∨ (z.toInt = 1 ∧ ¬ inB T m (trL T 225).length)) → R (.inl (some (.int z))) hp) :
    ∀ (jj t : Nat) (wt : Int32), wt.toInt = (t : Int) → t + jj = (trL T 225).length → ¬ inB T m t → xV (d + 1) am_m330 2 [some (.ref 66), some (.int s), some (.int wt)] [] hp R := by
  have l35 := trL_35 hT 225
  have L1 := hL.1
  intro jj
  induction jj with
  | zero =>
    intro t wt hwt hj hc
    have et : (trL T 225).length = t := by omega
    refine xild 3 ⟨u330, _, rfl⟩ rfl rfl ?_
    refine xald 4 ⟨u330, _, rfl⟩ rfl rfl ?_
    refine xgetI 7 hH ⟨u330, _, rfl⟩ rfl rfl (fun z4 h4 => ?_)
    refine xcmp_ge 10 ⟨u330, _, rfl⟩ rfl (fun c7 => ?_) (fun c7 => ?_)
    · refine xcst 36 (1) ⟨u330, _, rfl⟩ rfl (by decide) (fun z35 h35 => ?_)
      exact xretB ⟨u330, _, rfl⟩ rfl (by omega) (hR _ (Or.inr ⟨by omega, by rw [et]; exact hc⟩))
    · omega
  | succ jj ih =>
    intro t wt hwt hj hc
    have ml := (mN_lt hT (show t < (trL T 225).length by omega)).1
    have Lt := (hL.2 t (by omega)).2.2.2
    refine xild 3 ⟨u330, _, rfl⟩ rfl rfl ?_
    refine xald 4 ⟨u330, _, rfl⟩ rfl rfl ?_
    refine xgetI 7 hH ⟨u330, _, rfl⟩ rfl rfl (fun z4 h4 => ?_)
    refine xcmp_ge 10 ⟨u330, _, rfl⟩ rfl (fun c7 => ?_) (fun c7 => ?_)
    · omega
    · refine xald 11 ⟨u330, _, rfl⟩ rfl rfl ?_
      refine xgetR 14 75 hH ⟨u330, _, rfl⟩ rfl rfl ?_
      refine xild 15 ⟨u330, _, rfl⟩ rfl rfl ?_
      refine xiald 16 (wt).toInt.toNat hH ⟨u330, _, rfl⟩ rfl (by decide) rfl (by omega) (by omega) (fun z15 h15 => ?_)
      refine xild 17 ⟨u330, _, rfl⟩ rfl rfl ?_
      refine xand 18 ⟨u330, _, rfl⟩ rfl ?_
      refine xald 19 ⟨u330, _, rfl⟩ rfl rfl ?_
      refine xgetR 22 75 hH ⟨u330, _, rfl⟩ rfl rfl ?_
      refine xild 23 ⟨u330, _, rfl⟩ rfl rfl ?_
      refine xiald 24 (wt).toInt.toNat hH ⟨u330, _, rfl⟩ rfl (by decide) rfl (by omega) (by omega) (fun z23 h23 => ?_)
      have e15 : z15.toInt = ((mN T t : Nat) : Int) := by rw [h15, show wt.toInt.toNat = t by omega]; exact Lt
      have e23 : z23.toInt = ((mN T t : Nat) : Int) := by rw [h23, show wt.toInt.toNat = t by omega]; exact Lt
      have e17 := (i_and e15 hs ml).1
      refine xcmp_ne 27 ⟨u330, _, rfl⟩ rfl (fun c24 => ?_) (fun c24 => ?_)
      · refine xinc 32 (1) ⟨u330, _, rfl⟩ rfl rfl rfl (by decide) (by omega) (by omega) (fun z29 h29 => ?_)
        refine xgoto ⟨u330, _, rfl⟩ ?_
        exact ih (t + 1) _ (by omega) (by omega) (inB_s hc (fun z => by omega))
      · refine xcst 28 (0) ⟨u330, _, rfl⟩ rfl (by decide) (fun z27 h27 => ?_)
        exact xretB ⟨u330, _, rfl⟩ rfl (by omega) (hR _ (Or.inl ⟨by omega, t, by omega, by omega⟩))
theorem k_330E {d m V : Nat} {T : sT} {hp : amH} {R : xQ} {s : Int32} (hH : bHk 84 bTT hp) (hL : rlN hp T 225) (hT : sOk V T) (hs : s.toInt = (m : Int)) (hm : m < 32768)
    (hR : ∀ z : Int32, ((z.toInt = 0 ∧ inB T m (trL T 225).length) ∨ (z.toInt = 1 ∧ ¬ inB T m (trL T 225).length)) → R (.inl (some (.int z))) hp) : xK (d + 1) 330 [.ref 66, .int s] hp R := by
  refine xin (M := am_m330) rfl rfl rfl ?_
  refine xcst 1 (0) ⟨u330, _, rfl⟩ rfl (by decide) (fun z0 h0 => ?_)
  refine xist 2 ⟨u330, _, rfl⟩ rfl rfl ?_
  exact l330E hH hL hT hs hm hR (trL T 225).length 0 _ h0 (by omega) (fun ⟨s, hs, _⟩ => absurd hs (Nat.not_lt_zero s))
theorem u164 : bUp 0 am_m164.1 = true := by decide +kernel
theorem l164E {d V : Nat} {T : sT} {hp : amH} {R : xQ} {wa : Int32} (hH : bHk 84 bTT hp) (hL : lsN hp 3 T 225) (hT : sOk V T) (hwa : wa.toInt = ((2 ^ V - 1 : Nat) : Int)) (h2V : 2 ^ V ≤ 32768) (p2 : 0 < 2 ^ V)
    (hR : ∀ z : Int32, z.toInt = ((inF V T (2 ^ V) : Nat) : Int) → R (.inl (some (.int z))) hp) :
    ∀ (jj t : Nat) (w wt : Int32), wt.toInt = (t : Int) → t + jj = 2 ^ V → w.toInt = ((inF V T t : Nat) : Int) → xV (d + 4) am_m164 12 [some (.ref 0), some (.int wa), some (.int w), some (.int wt)] [] hp R := by
  intro jj
  induction jj with
  | zero =>
    intro t w wt hwt hj hw
    have et : t = 2 ^ V := by omega
    rw [et] at hw
    refine xild 13 ⟨u164, _, rfl⟩ rfl rfl ?_
    refine xild 14 ⟨u164, _, rfl⟩ rfl rfl ?_
    refine xcmp_gt 17 ⟨u164, _, rfl⟩ rfl (fun c14 => ?_) (fun c14 => ?_)
    · refine xild 48 ⟨u164, _, rfl⟩ rfl rfl ?_
      exact xret ⟨u164, _, rfl⟩ rfl (hR _ hw)
    · omega
  | succ jj ih =>
    intro t w wt hwt hj hw
    have k2 := inF_lt (V := V) (T := T) t
    refine xild 13 ⟨u164, _, rfl⟩ rfl rfl ?_
    refine xild 14 ⟨u164, _, rfl⟩ rfl rfl ?_
    refine xcmp_gt 17 ⟨u164, _, rfl⟩ rfl (fun c14 => ?_) (fun c14 => ?_)
    · omega
    · refine xild 18 ⟨u164, _, rfl⟩ rfl rfl ?_
      refine xcallS 21 [.int _] [] hH ⟨u164, _, rfl⟩ rfl rfl rfl rfl rfl (k_bc hwt (fun z18 h18 => ⟨_, rfl, ?_⟩))
      refine xild 22 ⟨u164, _, rfl⟩ rfl rfl ?_
      refine xcallS 25 [.int _] [.int _] hH ⟨u164, _, rfl⟩ rfl rfl rfl rfl rfl (k_bc hw (fun z22 h22 => ⟨_, rfl, ?_⟩))
      refine xcmp_le 28 ⟨u164, _, rfl⟩ rfl (fun c25 => ?_) (fun c25 => ?_)
      · refine xinc 44 (1) ⟨u164, _, rfl⟩ rfl rfl rfl (by decide) (by omega) (by omega) (fun z41 h41 => ?_)
        refine xgoto ⟨u164, _, rfl⟩ ?_
        exact ih (t + 1) _ _ (by omega) (by omega) (by rw [inF_0 (fun z => by have := z.1; omega)]; exact hw)
      · refine xald 29 ⟨u164, _, rfl⟩ rfl rfl ?_
        refine xgetD 32 (3) hH ⟨u164, _, rfl⟩ rfl (by decide) (by decide) rfl rfl (by decide) ?_
        refine xild 33 ⟨u164, _, rfl⟩ rfl rfl ?_
        refine xcallC 36 (o := 3) [.int _] [] hH ⟨u164, _, rfl⟩ rfl rfl (by decide) rfl (by decide) rfl ⟨rfl, rfl, rfl, rfl⟩ rfl (k_34E hH hL hT hwt (by omega) (fun z33 h33 => ⟨_, rfl, ?_⟩))
        refine xif_ne 39 ⟨u164, _, rfl⟩ rfl (fun c36 => ?_) (fun c36 => ?_)
        · refine xinc 44 (1) ⟨u164, _, rfl⟩ rfl rfl rfl (by decide) (by omega) (by omega) (fun z41 h41 => ?_)
          refine xgoto ⟨u164, _, rfl⟩ ?_
          have c9 : inB T t (trL T 225).length := by
            rcases h33 with ⟨-, q⟩ | ⟨q, -⟩
            · exact q
            · omega
          exact ih (t + 1) _ _ (by omega) (by omega) (by rw [inF_0 (fun z => z.2 c9)]; exact hw)
        · refine xild 40 ⟨u164, _, rfl⟩ rfl rfl ?_
          refine xist 41 ⟨u164, _, rfl⟩ rfl rfl ?_
          refine xinc 44 (1) ⟨u164, _, rfl⟩ rfl rfl rfl (by decide) (by omega) (by omega) (fun z41 h41 => ?_)
          refine xgoto ⟨u164, _, rfl⟩ ?_
          have c9 : ¬ inB T t (trL T 225).length := by
            rcases h33 with ⟨q, -⟩ | ⟨-, q⟩
            · omega
            · exact q
          exact ih (t + 1) _ _ (by omega) (by omega) (by rw [inF_1 ⟨by omega, c9⟩]; omega)
theorem k_164E {d V n : Nat} {h : Nat → sR} {sv : Option sR} {T : sT} {ty : Nat → Int} {hp : amH} {R : xQ} (hH : bHk 84 bTT hp) (hS : clS hp (V, T, ty) n h sv)
    (hR : ∀ (z : Int32) hp1, bHk 84 bTT hp1 → cF hp hp1 → clS hp1 (V, T, ty) n h sv → z.toInt = ((inF V T (2 ^ V) : Nat) : Int) → R (.inl (some (.int z))) hp1) : xK (d + 5) 164 [.ref 0] hp R := by
  have hB : bdOk hp 3 V T := hS.1
  have b0 : rN hp 3 0 = (V : Int) := hB.1
  have hL : lsN hp 3 T 225 := hS.2.1
  have b1 : rN hp 3 1 = (((trL T 225).length : Nat) : Int) := hL.1
  have hT0 : sOk V T := hB.2.1
  have h15 : V ≤ 15 := hT0.2.1
  have l35 : (trL T 225).length ≤ 35 := trL_35 hT0 225
  have nq0 : rN hp 49 0 = ((nQ T : Nat) : Int) := hS.2.2.1.1
  have h2V : 2 ^ V ≤ 32768 := Nat.pow_le_pow_right (by decide) h15
  have p2 := Nat.two_pow_pos V
  refine xin (M := am_m164) rfl rfl rfl ?_
  refine xald 1 ⟨u164, _, rfl⟩ rfl rfl ?_
  refine xgetD 4 (3) hH ⟨u164, _, rfl⟩ rfl (by decide) (by decide) rfl rfl (by decide) ?_
  refine xcallC 7 (o := 3) [] [] hH ⟨u164, _, rfl⟩ rfl rfl (by decide) rfl (by decide) rfl ⟨rfl, rfl, rfl, rfl⟩ rfl (k_all (o := 3) (Or.inl rfl) hH b0 (fun z4 h4 => ⟨_, rfl, ?_⟩))
  refine xist 8 ⟨u164, _, rfl⟩ rfl rfl ?_
  refine xcst 9 (0) ⟨u164, _, rfl⟩ rfl (by decide) (fun z8 h8 => ?_)
  refine xist 10 ⟨u164, _, rfl⟩ rfl rfl ?_
  refine xcst 11 (0) ⟨u164, _, rfl⟩ rfl (by decide) (fun z10 h10 => ?_)
  refine xist 12 ⟨u164, _, rfl⟩ rfl rfl ?_
  exact l164E hH hL hT0 h4 h2V p2 (fun z e => hR z hp hH cF.refl hS e) (2 ^ V) 0 _ _ h10 (by omega) h8
theorem u331 : bUp 0 am_m331.1 = true := by decide +kernel
theorem l331E {d V : Nat} {T : sT} {hp : amH} {R : xQ} (hH : bHk 84 bTT hp) (hB : rdOk hp V T) (hL : rlN hp T 225) (h2V : 2 ^ V ≤ 32768)
    (hR : ∀ z : Int32, z.toInt = ((inF V T (2 ^ V) : Nat) : Int) → R (.inl (some (.int z))) hp) :
    ∀ (jj t : Nat) (w wt : Int32), wt.toInt = (t : Int) → t + jj = 2 ^ V → w.toInt = ((inF V T t : Nat) : Int) → xV (d + 3) am_m331 13 [some (.ref 66), some (.int w), some (.int wt)] [] hp R := by
  have hT := hB.2.1
  have h15 := hT.2.1
  have b0 : rN hp 67 0 = (V : Int) := hB.1
  have p2 := Nat.two_pow_pos V
  intro jj
  induction jj with
  | zero =>
    intro t w wt hwt hj hw
    have et : t = 2 ^ V := by omega
    rw [et] at hw
    refine xild 14 ⟨u331, _, rfl⟩ rfl rfl ?_
    refine xcst 15 (1) ⟨u331, _, rfl⟩ rfl (by decide) (fun z14 h14 => ?_)
    refine xald 16 ⟨u331, _, rfl⟩ rfl rfl ?_
    refine xcall 19 [.ref 66] [.int _, .int _] hH ⟨u331, _, rfl⟩ rfl rfl rfl rfl rfl (k_points hH (fun z16 h16 => ⟨_, rfl, ?_⟩))
    refine xshl 20 ⟨u331, _, rfl⟩ rfl ?_
    have sV := i_shlV h14 (h16.trans b0) (by omega)
    refine xcmp_ge 23 ⟨u331, _, rfl⟩ rfl (fun c20 => ?_) (fun c20 => ?_)
    · refine xild 51 ⟨u331, _, rfl⟩ rfl rfl ?_
      exact xret ⟨u331, _, rfl⟩ rfl (hR _ hw)
    · omega
  | succ jj ih =>
    intro t w wt hwt hj hw
    have k2 := inF_lt (V := V) (T := T) t
    refine xild 14 ⟨u331, _, rfl⟩ rfl rfl ?_
    refine xcst 15 (1) ⟨u331, _, rfl⟩ rfl (by decide) (fun z14 h14 => ?_)
    refine xald 16 ⟨u331, _, rfl⟩ rfl rfl ?_
    refine xcall 19 [.ref 66] [.int _, .int _] hH ⟨u331, _, rfl⟩ rfl rfl rfl rfl rfl (k_points hH (fun z16 h16 => ⟨_, rfl, ?_⟩))
    refine xshl 20 ⟨u331, _, rfl⟩ rfl ?_
    have sV := i_shlV h14 (h16.trans b0) (by omega)
    refine xcmp_ge 23 ⟨u331, _, rfl⟩ rfl (fun c20 => ?_) (fun c20 => ?_)
    · omega
    · refine xild 24 ⟨u331, _, rfl⟩ rfl rfl ?_
      refine xcallS 27 [.int _] [] hH ⟨u331, _, rfl⟩ rfl rfl rfl rfl rfl (k_bc hwt (fun z24 h24 => ⟨_, rfl, ?_⟩))
      refine xild 28 ⟨u331, _, rfl⟩ rfl rfl ?_
      refine xcallS 31 [.int _] [.int _] hH ⟨u331, _, rfl⟩ rfl rfl rfl rfl rfl (k_bc hw (fun z28 h28 => ⟨_, rfl, ?_⟩))
      refine xcmp_le 34 ⟨u331, _, rfl⟩ rfl (fun c31 => ?_) (fun c31 => ?_)
      · refine xinc 47 (1) ⟨u331, _, rfl⟩ rfl rfl rfl (by decide) (by omega) (by omega) (fun z44 h44 => ?_)
        refine xgoto ⟨u331, _, rfl⟩ ?_
        exact ih (t + 1) _ _ (by omega) (by omega) (by rw [inF_0 (fun z => by have := z.1; omega)]; exact hw)
      · refine xald 35 ⟨u331, _, rfl⟩ rfl rfl ?_
        refine xild 36 ⟨u331, _, rfl⟩ rfl rfl ?_
        refine xcall 39 [.ref 66, .int _] [] hH ⟨u331, _, rfl⟩ rfl rfl rfl rfl rfl (k_330E hH hL hT hwt (by omega) (fun z36 h36 => ⟨_, rfl, ?_⟩))
        refine xif_eq 42 ⟨u331, _, rfl⟩ rfl (fun c39 => ?_) (fun c39 => ?_)
        · refine xinc 47 (1) ⟨u331, _, rfl⟩ rfl rfl rfl (by decide) (by omega) (by omega) (fun z44 h44 => ?_)
          refine xgoto ⟨u331, _, rfl⟩ ?_
          have c9 : inB T t (trL T 225).length := by
            rcases h36 with ⟨-, q⟩ | ⟨q, -⟩
            · exact q
            · omega
          exact ih (t + 1) _ _ (by omega) (by omega) (by rw [inF_0 (fun z => z.2 c9)]; exact hw)
        · refine xild 43 ⟨u331, _, rfl⟩ rfl rfl ?_
          refine xist 44 ⟨u331, _, rfl⟩ rfl rfl ?_
          refine xinc 47 (1) ⟨u331, _, rfl⟩ rfl rfl rfl (by decide) (by omega) (by omega) (fun z44 h44 => ?_)
          refine xgoto ⟨u331, _, rfl⟩ ?_
          have c9 : ¬ inB T t (trL T 225).length := by
            rcases h36 with ⟨q, -⟩ | ⟨-, q⟩
            · omega
            · exact q
          exact ih (t + 1) _ _ (by omega) (by omega) (by rw [inF_1 ⟨by omega, c9⟩]; omega)
theorem k_331E {d V n : Nat} {h : Nat → sR} {sv : Option sR} {T : sT} {ty : Nat → Int} {hp : amH} {R : xQ} (hH : bHk 84 bTT hp) (hP : P0 hp) (hS : rfS hp (V, T, ty) n h sv)
    (hR : ∀ (z : Int32) hp1, bHk 84 bTT hp1 → P0 hp1 → bFr wM hp hp1 → rfS hp1 (V, T, ty) n h sv → z.toInt = ((inF V T (2 ^ V) : Nat) : Int) → R (.inl (some (.int z))) hp1) : xK (d + 4) 331 [.ref 66] hp R := by
  have hB : rdOk hp V T := rowOk_rd hS.1
  have b0 : rN hp 67 0 = (V : Int) := hB.1
  have hT0 : sOk V T := hB.2.1
  have h15 : V ≤ 15 := hT0.2.1
  have l35 : (trL T 225).length ≤ 35 := trL_35 hT0 225
  have h2V : 2 ^ V ≤ 32768 := Nat.pow_le_pow_right (by decide) h15
  have p2 := Nat.two_pow_pos V
  refine xin (M := am_m331) rfl rfl rfl ?_
  refine xald 1 ⟨u331, _, rfl⟩ rfl rfl ?_
  refine xcst 2 (0) ⟨u331, _, rfl⟩ rfl (by decide) (fun z1 h1 => ?_)
  refine xputI 5 hH ⟨u331, _, rfl⟩ rfl rfl ⟨rfl, rfl⟩ (by omega) (by omega) (fun hp2 hH2 U2 => ?_)
  have s2 := U2.1
  have S2 := rfS_W (W := [(66, 7)]) hS (rU_fr U2 rfl) (fun _ => rfl) rfl rfl (fun _ => rfl) (fun _ => rfl)
  have P2 := P0_W (W := [(66, 7)]) (by decide) (rU_fr U2 rfl) hP
  refine xald 6 ⟨u331, _, rfl⟩ rfl rfl ?_
  refine xcall 9 [.ref 66] [] hH2 ⟨u331, _, rfl⟩ rfl rfl rfl rfl rfl (k_rlst hH2 (V := V) (T := T) (show rdOk hp2 V T from rowOk_rd S2.1) (fun hp6 hH6 F6 B6 L6 => ⟨_, rfl, ?_⟩))
  have S6 := rfS_W S2 F6 (fun _ => rfl) rfl rfl (fun _ => rfl) (fun _ => rfl)
  have P6 : P0 hp6 := P0_W (W := bLT) (by decide) F6 P2
  refine xcst 10 (0) ⟨u331, _, rfl⟩ rfl (by decide) (fun z9 h9 => ?_)
  refine xist 11 ⟨u331, _, rfl⟩ rfl rfl ?_
  refine xcst 12 (1) ⟨u331, _, rfl⟩ rfl (by decide) (fun z11 h11 => ?_)
  refine xist 13 ⟨u331, _, rfl⟩ rfl rfl ?_
  exact l331E hH6 B6 L6 h2V (fun z e => hR z hp6 hH6 P6 ((rU_fr U2 (by decide)).trans (bFr_sub F6 (by decide))) S6 e) (2 ^ V - 1) 1 _ _ h11 (by omega) (by rw [inF_b]; exact h9)
end
/-! ##### q54 ##### -/
section
/-! ===== apart on both sides ===== -/
theorem bc_pos {m : Nat} (h : m < 32768) : (1 ≤ bcN m ↔ ¬ m = 0) := by
  rw [bc_pq h]
  unfold pq
  omega
def apC (T : sT) (m t : Nat) : Nat := sm (fun s => iv (mN T s &&& m = 0)) t
theorem apC_mt {V : Nat} {T : sT} (hT : sOk V T) {m : Nat} : ∀ t, t ≤ (trL T 225).length → apC T m t + mtC T m 1 t = t
  | 0, _ => rfl
  | t + 1, h => by
    have h1 := apC_mt hT (m := m) t (by omega)
    have ml := (mN_lt hT (show t < (trL T 225).length by omega)).1
    have k := bc_pos (m := mN T t &&& m) (Nat.lt_of_le_of_lt Nat.and_le_left ml)
    show (apC T m t + iv (mN T t &&& m = 0)) + (mtC T m 1 t + iv (1 ≤ bcN (mN T t &&& m))) = t + 1
    by_cases g : mN T t &&& m = 0
    · rw [iv_t g, iv_f (p := 1 ≤ bcN (mN T t &&& m)) (fun z => k.mp z g)]; omega
    · rw [iv_f g, iv_t (p := 1 ≤ bcN (mN T t &&& m)) (k.mpr g)]; omega
theorem u165 : bUp 0 am_m165.1 = true := by decide +kernel
theorem k_165E {d V n : Nat} {h : Nat → sR} {sv : Option sR} {T : sT} {ty : Nat → Int} {hp : amH} {R : xQ} {a : Int32} (hH : bHk 84 bTT hp) (hS : clS hp (V, T, ty) n h sv)
    (hT : ∀ E hp1, bHk 84 bTT hp1 → cF hp hp1 → clS hp1 (V, T, ty) n h sv → ¬ gTri (trL T 225).length a.toInt = 0 → ((gTri (trL T 225).length a.toInt = 1 ∧ E = 1)) → R (.inr E) hp1)
    (hR : ∀ (z : Int32) hp1, bHk 84 bTT hp1 → cF hp hp1 → gTri (trL T 225).length a.toInt = 0 → clS hp1 (V, T, ty) n h sv → z.toInt = (((trL T 225).length : Nat) : Int) - ((mtC T (mN T a.toInt.toNat) 1 (trL T 225).length : Nat) : Int) → R (.inl (some (.int z))) hp1) : xK (d + 3) 165 [.ref 0, .int a] hp R := by
  have hB : bdOk hp 3 V T := hS.1
  have b0 : rN hp 3 0 = (V : Int) := hB.1
  have hL : lsN hp 3 T 225 := hS.2.1
  have b1 : rN hp 3 1 = (((trL T 225).length : Nat) : Int) := hL.1
  have hT0 : sOk V T := hB.2.1
  have h15 : V ≤ 15 := hT0.2.1
  have l35 : (trL T 225).length ≤ 35 := trL_35 hT0 225
  have nq0 : rN hp 49 0 = ((nQ T : Nat) : Int) := hS.2.2.1.1
  refine xin (M := am_m165) rfl rfl rfl ?_
  refine xald 1 ⟨u165, _, rfl⟩ rfl rfl ?_
  refine xild 2 ⟨u165, _, rfl⟩ rfl rfl ?_
  refine xcallT 5 (o := 0) [.int _] [] hH ⟨u165, _, rfl⟩ rfl rfl (by decide) rfl (by decide) rfl ⟨rfl, rfl, rfl, rfl⟩ rfl (k_rqt hH b1 (fun g2 => Or.inl ⟨_, rfl, ?_⟩) (fun g2 => Or.inr ⟨_, rfl, rfl, hT _ hp hH cF.refl hS (by omega) ⟨g2, rfl⟩⟩))
  have k2 := gTri_0.mp g2
  refine xald 6 ⟨u165, _, rfl⟩ rfl rfl ?_
  refine xgetD 9 (3) hH ⟨u165, _, rfl⟩ rfl (by decide) (by decide) rfl rfl (by decide) ?_
  refine xgetC 12 hH ⟨u165, _, rfl⟩ rfl (by decide) (by decide) rfl rfl (by decide) (fun z9 h9 => ?_)
  refine xald 13 ⟨u165, _, rfl⟩ rfl rfl ?_
  refine xgetD 16 (3) hH ⟨u165, _, rfl⟩ rfl (by decide) (by decide) rfl rfl (by decide) ?_
  refine xald 17 ⟨u165, _, rfl⟩ rfl rfl ?_
  refine xgetD 20 (3) hH ⟨u165, _, rfl⟩ rfl (by decide) (by decide) rfl rfl (by decide) ?_
  refine xild 21 ⟨u165, _, rfl⟩ rfl rfl ?_
  refine xcallC 24 (o := 3) [.int _] [.ref 3, .int _] hH ⟨u165, _, rfl⟩ rfl rfl (by decide) rfl (by decide) rfl ⟨rfl, rfl, rfl, rfl⟩ rfl (k_setL hH hL (t := a.toInt.toNat) (by omega) (by omega) (fun z21 h21 => ⟨_, rfl, ?_⟩))
  refine xcst 25 (1) ⟨u165, _, rfl⟩ rfl (by decide) (fun z24 h24 => ?_)
  refine xcallC 28 (o := 3) [.int _, .int _] [.int _] hH ⟨u165, _, rfl⟩ rfl rfl (by decide) rfl (by decide) rfl ⟨rfl, rfl, rfl, rfl⟩ rfl (k_26E (m := mN T a.toInt.toNat) hT0 hH hL h21 (mN_lt hT0 (show a.toInt.toNat < (trL T 225).length by omega)).1 (fun z25 h25 => ⟨_, rfl, ?_⟩))
  rw [h24] at h25
  have l25 := mtC_le (T := T) (m := mN T a.toInt.toNat) (c := 1) (trL T 225).length
  refine xsub 29 _ ⟨u165, _, rfl⟩ rfl rfl (by omega) (by omega) (fun z28 h28 => ?_)
  exact xret ⟨u165, _, rfl⟩ rfl (hR _ _ hH cF.refl g2 hS (by omega))
theorem u332 : bUp 0 am_m332.1 = true := by decide +kernel
theorem l332E {d V p : Nat} {T : sT} {hp : amH} {R : xQ} {a : Int32} (hH : bHk 84 bTT hp) (hT : sOk V T) (hL : rlN hp T 225) (ha : a.toInt = (p : Int)) (hp0 : p < (trL T 225).length)
    (hR : ∀ z : Int32, z.toInt = ((apC T (mN T p) (trL T 225).length : Nat) : Int) → R (.inl (some (.int z))) hp) :
    ∀ (jj t : Nat) (w wt : Int32), wt.toInt = (t : Int) → t + jj = (trL T 225).length → w.toInt = ((apC T (mN T p) t : Nat) : Int) → xV d am_m332 14 [some (.ref 66), some (.int a), some (.int w), some (.int wt)] [] hp R := by
  have l35 := trL_35 hT 225
  have L1 := hL.1
  have Lp := (hL.2 p hp0).2.2.2
  have mp := (mN_lt hT hp0).1
  intro jj
  induction jj with
  | zero =>
    intro t w wt hwt hj hw
    have et : (trL T 225).length = t := by omega
    have hR2 : ∀ z : Int32, z.toInt = ((apC T (mN T p) t : Nat) : Int) → R (.inl (some (.int z))) hp := by rw [← et]; exact hR
    refine xild 15 ⟨u332, _, rfl⟩ rfl rfl ?_
    refine xald 16 ⟨u332, _, rfl⟩ rfl rfl ?_
    refine xgetI 19 hH ⟨u332, _, rfl⟩ rfl rfl (fun z16 h16 => ?_)
    refine xcmp_ge 22 ⟨u332, _, rfl⟩ rfl (fun c19 => ?_) (fun c19 => ?_)
    · refine xild 53 ⟨u332, _, rfl⟩ rfl rfl ?_
      exact xret ⟨u332, _, rfl⟩ rfl (hR2 _ hw)
    · omega
  | succ jj ih =>
    intro t w wt hwt hj hw
    have k2 := apC_mt hT (m := mN T p) t (by omega)
    have Lt := (hL.2 t (by omega)).2.2.2
    have ml := (mN_lt hT (show t < (trL T 225).length by omega)).1
    refine xild 15 ⟨u332, _, rfl⟩ rfl rfl ?_
    refine xald 16 ⟨u332, _, rfl⟩ rfl rfl ?_
    refine xgetI 19 hH ⟨u332, _, rfl⟩ rfl rfl (fun z16 h16 => ?_)
    refine xcmp_ge 22 ⟨u332, _, rfl⟩ rfl (fun c19 => ?_) (fun c19 => ?_)
    · omega
    · refine xild 23 ⟨u332, _, rfl⟩ rfl rfl ?_
      refine xald 24 ⟨u332, _, rfl⟩ rfl rfl ?_
      refine xgetR 27 75 hH ⟨u332, _, rfl⟩ rfl rfl ?_
      refine xild 28 ⟨u332, _, rfl⟩ rfl rfl ?_
      refine xiald 29 (wt).toInt.toNat hH ⟨u332, _, rfl⟩ rfl (by decide) rfl (by omega) (by omega) (fun z28 h28 => ?_)
      refine xald 30 ⟨u332, _, rfl⟩ rfl rfl ?_
      refine xgetR 33 75 hH ⟨u332, _, rfl⟩ rfl rfl ?_
      refine xild 34 ⟨u332, _, rfl⟩ rfl rfl ?_
      refine xiald 35 (a).toInt.toNat hH ⟨u332, _, rfl⟩ rfl (by decide) rfl (by omega) (by omega) (fun z34 h34 => ?_)
      refine xand 36 ⟨u332, _, rfl⟩ rfl ?_
      have e28 : z28.toInt = ((mN T t : Nat) : Int) := by rw [h28, show wt.toInt.toNat = t by omega]; exact Lt
      have e34 : z34.toInt = ((mN T p : Nat) : Int) := by rw [h34, show a.toInt.toNat = p by omega]; exact Lp
      have e35 := (i_and e28 e34 ml).1
      refine xif_ne 39 ⟨u332, _, rfl⟩ rfl (fun c36 => ?_) (fun c36 => ?_)
      · refine xcst 44 (0) ⟨u332, _, rfl⟩ rfl (by decide) (fun z43 h43 => ?_)
        refine xadd 45 _ ⟨u332, _, rfl⟩ rfl rfl (by omega) (by omega) (fun z44 h44 => ?_)
        refine xist 46 ⟨u332, _, rfl⟩ rfl rfl ?_
        refine xinc 49 (1) ⟨u332, _, rfl⟩ rfl rfl rfl (by decide) (by omega) (by omega) (fun z46 h46 => ?_)
        refine xgoto ⟨u332, _, rfl⟩ ?_
        exact ih (t + 1) _ _ (by omega) (by omega) (by show _ = ((apC T (mN T p) t + iv (mN T t &&& mN T p = 0) : Nat) : Int); rw [iv_f (p := mN T t &&& mN T p = 0) (by omega)]; omega)
      · refine xcst 40 (1) ⟨u332, _, rfl⟩ rfl (by decide) (fun z39 h39 => ?_)
        refine xgoto ⟨u332, _, rfl⟩ ?_
        refine xadd 45 _ ⟨u332, _, rfl⟩ rfl rfl (by omega) (by omega) (fun z44 h44 => ?_)
        refine xist 46 ⟨u332, _, rfl⟩ rfl rfl ?_
        refine xinc 49 (1) ⟨u332, _, rfl⟩ rfl rfl rfl (by decide) (by omega) (by omega) (fun z46 h46 => ?_)
        refine xgoto ⟨u332, _, rfl⟩ ?_
        exact ih (t + 1) _ _ (by omega) (by omega) (by show _ = ((apC T (mN T p) t + iv (mN T t &&& mN T p = 0) : Nat) : Int); rw [iv_t (p := mN T t &&& mN T p = 0) (by omega)]; omega)
theorem k_332E {d V n : Nat} {h : Nat → sR} {sv : Option sR} {T : sT} {ty : Nat → Int} {hp : amH} {R : xQ} {a : Int32} (hH : bHk 84 bTT hp) (hP : P0 hp) (hS : rfS hp (V, T, ty) n h sv)
    (hR : ∀ (z : Int32) hp1, bHk 84 bTT hp1 → P0 hp1 → bFr wM hp hp1 → rN hp1 66 7 = gTri (trL T 225).length a.toInt → ((¬ gTri (trL T 225).length a.toInt = 0 ∧ rfS hp1 (V, T, ty) n h sv) ∨ (gTri (trL T 225).length a.toInt = 0 ∧ rfS hp1 (V, T, ty) n h sv ∧ z.toInt = (((trL T 225).length : Nat) : Int) - ((mtC T (mN T a.toInt.toNat) 1 (trL T 225).length : Nat) : Int))) → R (.inl (some (.int z))) hp1) : xK (d + 3) 332 [.ref 66, .int a] hp R := by
  have hB : rdOk hp V T := rowOk_rd hS.1
  have b0 : rN hp 67 0 = (V : Int) := hB.1
  have hT0 : sOk V T := hB.2.1
  have h15 : V ≤ 15 := hT0.2.1
  have l35 : (trL T 225).length ≤ 35 := trL_35 hT0 225
  refine xin (M := am_m332) rfl rfl rfl ?_
  refine xald 1 ⟨u332, _, rfl⟩ rfl rfl ?_
  refine xild 2 ⟨u332, _, rfl⟩ rfl rfl ?_
  refine xcall 5 [.ref 66, .int _] [] hH ⟨u332, _, rfl⟩ rfl rfl rfl rfl rfl (k_gpt hH hB (fun z2 hp2 hH2 F2 B2 L2 t2 o2 => ⟨_, rfl, ?_⟩))
  have S2 := rfS_W hS F2 (fun _ => rfl) rfl rfl (fun _ => rfl) (fun _ => rfl)
  have P2 : P0 hp2 := P0_W (W := (66, 7) :: bLT) (by decide) F2 hP
  refine xif_eq 8 ⟨u332, _, rfl⟩ rfl (fun c5 => ?_) (fun c5 => ?_)
  · have g2 : gTri (trL T 225).length a.toInt = 0 := by omega
    have k2 := gTri_0.mp g2
    have q2 := apC_mt hT0 (m := mN T a.toInt.toNat) (trL T 225).length (Nat.le_refl _)
    refine xcst 11 (0) ⟨u332, _, rfl⟩ rfl (by decide) (fun z10 h10 => ?_)
    refine xist 12 ⟨u332, _, rfl⟩ rfl rfl ?_
    refine xcst 13 (0) ⟨u332, _, rfl⟩ rfl (by decide) (fun z12 h12 => ?_)
    refine xist 14 ⟨u332, _, rfl⟩ rfl rfl ?_
    exact l332E hH2 hT0 L2 (p := a.toInt.toNat) (by omega) (by omega) (fun z h => hR z hp2 hH2 P2 (bFr_sub F2 (by decide)) t2 (Or.inr ⟨g2, S2, by omega⟩)) (trL T 225).length 0 _ _ h12 (by omega) h10
  · refine xcst 9 (0) ⟨u332, _, rfl⟩ rfl (by decide) (fun z8 h8 => ?_)
    exact xret ⟨u332, _, rfl⟩ rfl (hR _ hp2 hH2 P2 (bFr_sub F2 (by decide)) t2 (Or.inl ⟨by omega, S2⟩))
theorem h378E {d : Nat} {hp : amH} {R : cQ} {x1 : Int32} {V n : Nat} {h : Nat → sR} {sv : Option sR} {T : sT} {ty : Nat → Int} (hI : lawI hp) (c : clS hp (V, T, ty) n h sv) (r : rfS hp (V, T, ty) n h sv)
    (hR : ∀ (z : Int32) hp1 mc ms, lawI hp1 → rfS hp1 (V, T, ty) n h sv → z.toInt = gTri (trL T 225).length x1.toInt → ((¬ gTri (trL T 225).length x1.toInt = 0 ∧ clS hp1 (V, T, ty) n h sv) ∨ (gTri (trL T 225).length x1.toInt = 0 ∧ clS hp1 (V, T, ty) n h sv ∧ rJ hp1 83 0 = (((trL T 225).length : Nat) : Int) - ((mtC T (mN T x1.toInt.toNat) 1 (trL T 225).length : Nat) : Int))) → mc ≤ 1 → ms ≤ 6 → R (.inl (some (.int z))) hp1 mc ms) : cK (d + 20) 378 [.ref 0, .int x1, .ref 83] hp R := by
  refine cin (M := am_m378) rfl rfl rfl ?_
  refine cald 1 ⟨u378J, _, rfl⟩ rfl rfl ?_
  refine ccst 2 (0) ⟨u378J, _, rfl⟩ rfl (by decide) (fun z1 h1 => ?_)
  refine cald 3 ⟨u378J, _, rfl⟩ rfl rfl ?_
  refine cild 4 ⟨u378J, _, rfl⟩ rfl rfl ?_
  refine ccall (kd := 0) (t := 1) [.ref 0, .int _] [.int _, .ref 83] hI.1 ⟨u378J, _, rfl⟩ (Or.inl ⟨_, rfl, rfl, by decide, by decide⟩) rfl rfl rfl ⟨rfl, rfl, rfl⟩ rfl (recv0 hI.1 _) rfl (qKE (Φ := fun z hp1 => bHk 84 bTT hp1 ∧ cF hp hp1 ∧ gTri (trL T 225).length x1.toInt = 0 ∧ clS hp1 (V, T, ty) n h sv ∧ z.toInt = (((trL T 225).length : Nat) : Int) - ((mtC T (mN T x1.toInt.toNat) 1 (trL T 225).length : Nat) : Int)) (Ψ := fun E hp1 => lawI hp1 ∧ rfS hp1 (V, T, ty) n h sv ∧ clS hp1 (V, T, ty) n h sv ∧ ¬ gTri (trL T 225).length x1.toInt = 0 ∧ ((gTri (trL T 225).length x1.toInt = 1 ∧ E = 1))) (fun R g1 g2 => k_165E (d := d + 16) hI.1 c (fun E hp1 b1 b2 b3 e1 e2 => g2 E hp1 ⟨law_cl hI b1 b2, cF_rf b2 r, b3, e1, e2⟩) (fun z hp1 a1 a2 a3 a4 a5 => g1 z hp1 ⟨a1, a2, a3, a4, a5⟩)) (fun z hp1 φ => Or.inl ⟨_, rfl, ?_⟩) (fun E hp1 ψ => Or.inr ?_))
  · refine ci2lE 8 ⟨u378J, _, rfl⟩ rfl (fun w hw => ?_)
    refine clastE 9 φ.1 ⟨u378J, _, rfl⟩ rfl h1 (fun hp2 hH2 F2 J2 => ?_)
    refine cgoto ⟨u378J, _, rfl⟩ ?_
    refine ccst 16 (0) ⟨u378J, _, rfl⟩ rfl (by decide) (fun z9 h9 => ?_)
    exact cret ⟨u378J, _, rfl⟩ (Or.inl rfl) (hR _ _ _ _ (lawI_83 (law_cl hI φ.1 φ.2.1) hH2 F2) (rf_83 F2 (cF_rf φ.2.1 r)) (by rw [φ.2.2.1]; exact h9) (Or.inr ⟨φ.2.2.1, cl_83 F2 φ.2.2.2.1, by rw [J2, hw]; exact φ.2.2.2.2⟩) (by decide) (by decide))
  · obtain ⟨ψ0, ψr, ψc, ψ1, ψ2⟩ := ψ
    obtain ⟨ce, rfl⟩ := ψ2
    refine ⟨1, 12, 3, 13, rfl, rfl, rfl, rfl, ?_⟩
    refine ccst 14 (1) ⟨u378J, _, rfl⟩ rfl (by decide) (fun z9 h9 => ?_)
    exact cret ⟨u378J, _, rfl⟩ (Or.inl rfl) (hR _ _ _ _ ψ0 ψr (by rw [ce]; exact h9) (Or.inl ⟨ψ1, ψc⟩) (by decide) (by decide))
end
/-! ##### q55 ##### -/
section
/-! ===== mostApart on both sides ===== -/
/-- the most apart from the triple t on, of f triples -/
def mo (T : sT) : Nat → Nat → Nat → Nat
  | 0, _, _ => 0
  | f + 1, t, u => max (mo T f (t + 1) u) (if mN T t &&& u = 0 then 1 + mo T f (t + 1) (u ||| mN T t) else 0)
theorem mo_s {T : sT} {f t u : Nat} : mo T (f + 1) t u = max (mo T f (t + 1) u) (if mN T t &&& u = 0 then 1 + mo T f (t + 1) (u ||| mN T t) else 0) := rfl
theorem mo_le {T : sT} : ∀ f t u, mo T f t u ≤ f
  | 0, _, _ => Nat.le_refl _
  | f + 1, t, u => by
    have a := mo_le (T := T) f (t + 1) u
    have b := mo_le (T := T) f (t + 1) (u ||| mN T t)
    rw [mo_s]
    refine Nat.max_le.mpr ⟨by omega, ?_⟩
    split <;> omega
theorem pq_m3 {x y z : Nat} (hx : x < 15) (hy : y < 15) (hz : z < 15) (hxy : ¬ x = y) (hyz : ¬ y = z) (hxz : ¬ x = z) : pq (m3 x y z) = 3 := by
  have h := bc_3 (m := m3 x y z) hx hy hz hxy hyz hxz
  have h1 : m3 x y z < 2 ^ 15 := by
    unfold m3
    exact Nat.or_lt_two_pow (Nat.or_lt_two_pow (Nat.pow_lt_pow_right (by decide) hx) (Nat.pow_lt_pow_right (by decide) hy)) (Nat.pow_lt_pow_right (by decide) hz)
  rw [Nat.and_self, bc_pq h1, iv_t (by rw [m3_test]; simp), iv_t (by rw [m3_test]; simp), iv_t (by rw [m3_test]; simp)] at h
  omega
theorem pq_mN {V : Nat} {T : sT} (hT : sOk V T) {t : Nat} (ht : t < (trL T 225).length) : pq (mN T t) = 3 := by
  obtain ⟨x, y, z, q1, q2, q3, q4, q5⟩ := mN_p hT ht
  have hV := hT.2.1
  rw [q1]
  exact pq_m3 (by omega) (by omega) (by omega) (by omega) (by omega) (by omega)
theorem pq_or {m u : Nat} (h : m &&& u = 0) : pq (u ||| m) = pq u + pq m := by
  rw [pq_b, pq_b, pq_b, ← sm_add]
  refine sm_ext 15 (fun i _ => ?_)
  have e : (m &&& u).testBit i = false := by rw [h, Nat.zero_testBit]
  rw [Nat.testBit_and] at e
  have f : (u ||| m).testBit i = (u.testBit i || m.testBit i) := Nat.testBit_or ..
  rw [iv_eq (show (u ||| m).testBit i = true ↔ (u.testBit i || m.testBit i) = true by rw [f])]
  cases g1 : u.testBit i <;> cases g2 : m.testBit i
  · rfl
  · rfl
  · rfl
  · rw [g1, g2] at e; cases e
theorem md_full {V : Nat} {T : sT} (hT : sOk V T) {t u : Nat} (ht : t < (trL T 225).length) (hu : u < 32768) (h : 15 ≤ pq u) : ¬ mN T t &&& u = 0 := by
  intro w
  have a := pq_or w
  have b := pq_mN hT ht
  have l : u ||| mN T t < 2 ^ 15 := Nat.or_lt_two_pow hu (mN_lt hT ht).1
  have c := pq_15 l
  omega
theorem mo_full {V : Nat} {T : sT} (hT : sOk V T) {u : Nat} (hu : u < 32768) (h : 15 ≤ pq u) : ∀ f t, t + f ≤ (trL T 225).length → mo T f t u = 0
  | 0, _, _ => rfl
  | f + 1, t, hf => by
    rw [mo_s, mo_full hT hu h f (t + 1) (by omega), if_neg (md_full hT (by omega) hu h)]
    rfl
theorem u193 : bUp 0 am_m193.1 = true := by decide +kernel
theorem l193E {d V u k X : Nat} {T : sT} {hp : amH} {R : xQ} {a b c : Int32} (hH : bHk 84 bTT hp) (hL : lsN hp 3 T 225) (hT : sOk V T) (hb : b.toInt = (u : Int)) (hu : u < 32768) (hc : c.toInt = (k : Int)) (hk : k ≤ 5)
    (hC : ∀ (t m : Nat) (a2 b2 c2 : Int32) (R2 : xQ), a2.toInt = (t : Int) → b2.toInt = (m : Int) → c2.toInt = ((k + 1 : Nat) : Int) → m < 32768 → t ≤ (trL T 225).length → pq u + 3 ≤ pq m → (∀ z : Int32, z.toInt = ((mo T ((trL T 225).length - t) t m : Nat) : Int) → R2 (.inl (some (.int z))) hp) → xK d 193 [.ref 3, .int a2, .int b2, .int c2] hp R2)
    (hR : ∀ z : Int32, z.toInt = (X : Int) → R (.inl (some (.int z))) hp) :
    ∀ (jj t best : Nat) (w wt : Int32) (v6 : Option Value), wt.toInt = (t : Int) → t + jj = (trL T 225).length → w.toInt = (best : Int) → best ≤ 36 → max best (mo T jj t u) = X → xV (d + 1) am_m193 13 [some (.ref 3), some (.int a), some (.int b), some (.int c), some (.int w), some (.int wt), v6] [] hp R := by
  have l35 := trL_35 hT 225
  have b1 : rN hp 3 1 = (((trL T 225).length : Nat) : Int) := hL.1
  intro jj
  induction jj with
  | zero =>
    intro t best w wt v6 hwt hj hw hb36 hx
    have hx : max best 0 = X := hx
    refine xild2 15 ⟨u193, _, rfl⟩ rfl rfl ?_
    refine xald 16 ⟨u193, _, rfl⟩ rfl rfl ?_
    refine xgetC 19 hH ⟨u193, _, rfl⟩ rfl (by decide) (by decide) rfl rfl (by decide) (fun z16 h16 => ?_)
    refine xcmp_ge 22 ⟨u193, _, rfl⟩ rfl (fun c19 => ?_) (fun c19 => ?_)
    · refine xild2 69 ⟨u193, _, rfl⟩ rfl rfl ?_
      exact xret ⟨u193, _, rfl⟩ rfl (hR _ (by omega))
    · omega
  | succ jj ih =>
    intro t best w wt v6 hwt hj hw hb36 hx
    have ht : t < (trL T 225).length := by omega
    have ml := (mN_lt hT ht).1
    have ol : u ||| mN T t < 2 ^ 15 := Nat.or_lt_two_pow hu ml
    have e3 := pq_mN hT ht
    rw [mo_s] at hx
    have le := mo_le (T := T) jj (t + 1) (u ||| mN T t)
    refine xild2 15 ⟨u193, _, rfl⟩ rfl rfl ?_
    refine xald 16 ⟨u193, _, rfl⟩ rfl rfl ?_
    refine xgetC 19 hH ⟨u193, _, rfl⟩ rfl (by decide) (by decide) rfl rfl (by decide) (fun z16 h16 => ?_)
    refine xcmp_ge 22 ⟨u193, _, rfl⟩ rfl (fun c19 => ?_) (fun c19 => ?_)
    · omega
    · refine xald 23 ⟨u193, _, rfl⟩ rfl rfl ?_
      refine xild2 25 ⟨u193, _, rfl⟩ rfl rfl ?_
      refine xcallC 28 (o := 3) [.int _] [] hH ⟨u193, _, rfl⟩ rfl rfl (by decide) rfl (by decide) rfl ⟨rfl, rfl, rfl, rfl⟩ rfl (k_setL hH hL (t := t) hwt ht (fun z25 h25 => ⟨_, rfl, ?_⟩))
      refine xist2 30 ⟨u193, _, rfl⟩ rfl rfl ?_
      refine xild2 32 ⟨u193, _, rfl⟩ rfl rfl ?_
      refine xild 33 ⟨u193, _, rfl⟩ rfl rfl ?_
      refine xand 34 ⟨u193, _, rfl⟩ rfl ?_
      have e33 := i_and h25 hb ml
      refine xif_ne 37 ⟨u193, _, rfl⟩ rfl (fun c34 => ?_) (fun c34 => ?_)
      · have dj : ¬ mN T t &&& u = 0 := by omega
        rw [if_neg dj, Nat.max_zero] at hx
        refine xinc 64 (1) ⟨u193, _, rfl⟩ rfl rfl rfl (by decide) (by omega) (by omega) (fun z61 h61 => ?_)
        refine xgoto ⟨u193, _, rfl⟩ ?_
        exact ih (t + 1) best _ _ _ (by omega) (by omega) hw hb36 hx
      · have dj : mN T t &&& u = 0 := by omega
        rw [if_pos dj] at hx
        refine xild2 39 ⟨u193, _, rfl⟩ rfl rfl ?_
        refine xcst 40 (1) ⟨u193, _, rfl⟩ rfl (by decide) (fun z39 h39 => ?_)
        refine xald 41 ⟨u193, _, rfl⟩ rfl rfl ?_
        refine xild2 43 ⟨u193, _, rfl⟩ rfl rfl ?_
        refine xcst 44 (1) ⟨u193, _, rfl⟩ rfl (by decide) (fun z43 h43 => ?_)
        refine xadd 45 _ ⟨u193, _, rfl⟩ rfl rfl (by omega) (by omega) (fun z44 h44 => ?_)
        refine xild 46 ⟨u193, _, rfl⟩ rfl rfl ?_
        refine xild2 48 ⟨u193, _, rfl⟩ rfl rfl ?_
        have e48 := i_or hb h25 hu ml
        refine xor_ 49 ⟨u193, _, rfl⟩ rfl ?_
        refine xild 50 ⟨u193, _, rfl⟩ rfl rfl ?_
        refine xcst 51 (1) ⟨u193, _, rfl⟩ rfl (by decide) (fun z50 h50 => ?_)
        refine xadd 52 _ ⟨u193, _, rfl⟩ rfl rfl (by omega) (by omega) (fun z51 h51 => ?_)
        refine xcallS 55 [.ref 3, .int _, .int _, .int _] [.int _, .int _] hH ⟨u193, _, rfl⟩ rfl rfl rfl rfl rfl (hC (t + 1) (u ||| mN T t) _ _ _ _ (by omega) e48.1 (by omega) ol (by omega) (by rw [pq_or dj, e3]; exact Nat.le_refl _) (fun z52 h52 => ⟨_, rfl, ?_⟩))
        rw [show (trL T 225).length - (t + 1) = jj by omega] at h52
        refine xadd 56 _ ⟨u193, _, rfl⟩ rfl rfl (by omega) (by omega) (fun z55 h55 => ?_)
        refine xcallS 59 [.int _, .int _] [] hH ⟨u193, _, rfl⟩ rfl rfl rfl rfl rfl (k_max (fun z56 h56 => ⟨_, rfl, ?_⟩))
        refine xist2 61 ⟨u193, _, rfl⟩ rfl rfl ?_
        refine xinc 64 (1) ⟨u193, _, rfl⟩ rfl rfl rfl (by decide) (by omega) (by omega) (fun z61 h61 => ?_)
        refine xgoto ⟨u193, _, rfl⟩ ?_
        exact ih (t + 1) (max best (1 + mo T jj (t + 1) (u ||| mN T t))) _ _ _ (by omega) (by omega) (by omega) (by omega) (by omega)
theorem k_193E {V : Nat} {T : sT} {hp : amH} (hH : bHk 84 bTT hp) (hL : lsN hp 3 T 225) (hT : sOk V T) : ∀ (j k t u d : Nat) (R : xQ) (a b c : Int32), k + j = 5 → a.toInt = (t : Int) → b.toInt = (u : Int) → c.toInt = (k : Int) → u < 32768 → t ≤ (trL T 225).length → 3 * k ≤ pq u →
    (∀ z : Int32, z.toInt = ((mo T ((trL T 225).length - t) t u : Nat) : Int) → R (.inl (some (.int z))) hp) → xK (d + 1 + j) 193 [.ref 3, .int a, .int b, .int c] hp R := by
  have l35 := trL_35 hT 225
  intro j
  induction j with
  | zero =>
    intro k t u d R a b c hk ha hb hc hu ht hp3 hR
    refine xin (M := am_m193) rfl rfl rfl ?_
    refine xild 1 ⟨u193, _, rfl⟩ rfl rfl ?_
    refine xcst 2 (5) ⟨u193, _, rfl⟩ rfl (by decide) (fun z1 h1 => ?_)
    refine xcmp_lt 5 ⟨u193, _, rfl⟩ rfl (fun c2 => ?_) (fun c2 => ?_)
    · omega
    · refine xcst 6 (0) ⟨u193, _, rfl⟩ rfl (by decide) (fun z5 h5 => ?_)
      exact xret ⟨u193, _, rfl⟩ rfl (hR _ (by rw [mo_full hT hu (by omega) _ _ (by omega)]; omega))
  | succ j ih =>
    intro k t u d R a b c hk ha hb hc hu ht hp3 hR
    refine xin (M := am_m193) rfl rfl rfl ?_
    refine xild 1 ⟨u193, _, rfl⟩ rfl rfl ?_
    refine xcst 2 (5) ⟨u193, _, rfl⟩ rfl (by decide) (fun z1 h1 => ?_)
    refine xcmp_lt 5 ⟨u193, _, rfl⟩ rfl (fun c2 => ?_) (fun c2 => ?_)
    · refine xcst 8 (0) ⟨u193, _, rfl⟩ rfl (by decide) (fun z7 h7 => ?_)
      refine xist2 10 ⟨u193, _, rfl⟩ rfl rfl ?_
      refine xild 11 ⟨u193, _, rfl⟩ rfl rfl ?_
      refine xist2 13 ⟨u193, _, rfl⟩ rfl rfl ?_
      refine xpad 1 ?_
      exact l193E (d := d + 1 + j) (k := k) hH hL hT hb hu hc (by omega) (fun t2 m2 a2 b2 c2 R2 g1 g2 g3 g4 g5 g6 g7 => ih (k + 1) t2 m2 d R2 a2 b2 c2 (by omega) g1 g2 g3 g4 g5 (by omega) g7) hR ((trL T 225).length - t) t 0 _ _ _ ha (by omega) (by omega) (by omega) (Nat.zero_max _)
    · omega
theorem u166 : bUp 0 am_m166.1 = true := by decide +kernel
theorem k_166E {d V n : Nat} {h : Nat → sR} {sv : Option sR} {T : sT} {ty : Nat → Int} {hp : amH} {R : xQ} (hH : bHk 84 bTT hp) (hS : clS hp (V, T, ty) n h sv)
    (hR : ∀ (z : Int32) hp1, bHk 84 bTT hp1 → cF hp hp1 → clS hp1 (V, T, ty) n h sv → z.toInt = ((mo T (trL T 225).length 0 0 : Nat) : Int) → R (.inl (some (.int z))) hp1) : xK (d + 8) 166 [.ref 0] hp R := by
  have hB : bdOk hp 3 V T := hS.1
  have b0 : rN hp 3 0 = (V : Int) := hB.1
  have hL : lsN hp 3 T 225 := hS.2.1
  have b1 : rN hp 3 1 = (((trL T 225).length : Nat) : Int) := hL.1
  have hT0 : sOk V T := hB.2.1
  have h15 : V ≤ 15 := hT0.2.1
  have l35 : (trL T 225).length ≤ 35 := trL_35 hT0 225
  have nq0 : rN hp 49 0 = ((nQ T : Nat) : Int) := hS.2.2.1.1
  refine xin (M := am_m166) rfl rfl rfl ?_
  refine xald 1 ⟨u166, _, rfl⟩ rfl rfl ?_
  refine xgetD 4 (3) hH ⟨u166, _, rfl⟩ rfl (by decide) (by decide) rfl rfl (by decide) ?_
  refine xcst 5 (0) ⟨u166, _, rfl⟩ rfl (by decide) (fun z4 h4 => ?_)
  refine xcst 6 (0) ⟨u166, _, rfl⟩ rfl (by decide) (fun z5 h5 => ?_)
  refine xcst 7 (0) ⟨u166, _, rfl⟩ rfl (by decide) (fun z6 h6 => ?_)
  refine xcallS 10 [.ref 3, .int _, .int _, .int _] [] hH ⟨u166, _, rfl⟩ rfl rfl rfl rfl rfl (k_193E hH hL hT0 5 0 0 0 (d + 1) _ _ _ _ (by omega) (by omega) (by omega) (by omega) (by omega) (by omega) (by omega) (fun z7 h7 => ⟨_, rfl, ?_⟩))
  rw [Nat.sub_zero] at h7
  exact xret ⟨u166, _, rfl⟩ rfl (hR _ _ hH cF.refl hS h7)
theorem u333 : bUp 0 am_m333.1 = true := by decide +kernel
theorem l333E {d V u X : Nat} {T : sT} {hp : amH} {R : xQ} {a b : Int32} (hH : bHk 84 bTT hp) (hL : rlN hp T 225) (hT : sOk V T) (hb : b.toInt = (u : Int)) (hu : u < 32768)
    (hC : ∀ (t m : Nat) (a2 b2 : Int32) (R2 : xQ), a2.toInt = (t : Int) → b2.toInt = (m : Int) → m < 32768 → t ≤ (trL T 225).length → pq u + 3 ≤ pq m → (∀ z : Int32, z.toInt = ((mo T ((trL T 225).length - t) t m : Nat) : Int) → R2 (.inl (some (.int z))) hp) → xK d 333 [.ref 66, .int a2, .int b2] hp R2)
    (hR : ∀ z : Int32, z.toInt = (X : Int) → R (.inl (some (.int z))) hp) :
    ∀ (jj t best : Nat) (w wt : Int32), wt.toInt = (t : Int) → t + jj = (trL T 225).length → w.toInt = (best : Int) → best ≤ 36 → max best (mo T jj t u) = X → xV (d + 1) am_m333 5 [some (.ref 66), some (.int a), some (.int b), some (.int w), some (.int wt)] [] hp R := by
  have l35 := trL_35 hT 225
  have b1 : rN hp 66 12 = (((trL T 225).length : Nat) : Int) := hL.1
  intro jj
  induction jj with
  | zero =>
    intro t best w wt hwt hj hw hb36 hx
    have hx : max best 0 = X := hx
    refine xild2 7 ⟨u333, _, rfl⟩ rfl rfl ?_
    refine xald 8 ⟨u333, _, rfl⟩ rfl rfl ?_
    refine xgetI 11 hH ⟨u333, _, rfl⟩ rfl rfl (fun z8 h8 => ?_)
    refine xcmp_ge 14 ⟨u333, _, rfl⟩ rfl (fun c11 => ?_) (fun c11 => ?_)
    · refine xild 57 ⟨u333, _, rfl⟩ rfl rfl ?_
      exact xret ⟨u333, _, rfl⟩ rfl (hR _ (by omega))
    · omega
  | succ jj ih =>
    intro t best w wt hwt hj hw hb36 hx
    have ht : t < (trL T 225).length := by omega
    have ml := (mN_lt hT ht).1
    have ol : u ||| mN T t < 2 ^ 15 := Nat.or_lt_two_pow hu ml
    have e3 := pq_mN hT ht
    rw [mo_s] at hx
    have le := mo_le (T := T) jj (t + 1) (u ||| mN T t)
    have Lt := (hL.2 t ht).2.2.2
    have et : wt.toInt.toNat = t := by omega
    refine xild2 7 ⟨u333, _, rfl⟩ rfl rfl ?_
    refine xald 8 ⟨u333, _, rfl⟩ rfl rfl ?_
    refine xgetI 11 hH ⟨u333, _, rfl⟩ rfl rfl (fun z8 h8 => ?_)
    refine xcmp_ge 14 ⟨u333, _, rfl⟩ rfl (fun c11 => ?_) (fun c11 => ?_)
    · omega
    · refine xald 15 ⟨u333, _, rfl⟩ rfl rfl ?_
      refine xgetR 18 75 hH ⟨u333, _, rfl⟩ rfl rfl ?_
      refine xild2 20 ⟨u333, _, rfl⟩ rfl rfl ?_
      refine xiald 21 (wt).toInt.toNat hH ⟨u333, _, rfl⟩ rfl (by decide) rfl (by omega) (by omega) (fun z20 h20 => ?_)
      refine xild 22 ⟨u333, _, rfl⟩ rfl rfl ?_
      refine xand 23 ⟨u333, _, rfl⟩ rfl ?_
      have e20 : z20.toInt = ((mN T t : Nat) : Int) := by rw [h20, et]; exact Lt
      have e22 := i_and e20 hb ml
      refine xif_ne 26 ⟨u333, _, rfl⟩ rfl (fun c23 => ?_) (fun c23 => ?_)
      · have dj : ¬ mN T t &&& u = 0 := by omega
        rw [if_neg dj, Nat.max_zero] at hx
        refine xinc 53 (1) ⟨u333, _, rfl⟩ rfl rfl rfl (by decide) (by omega) (by omega) (fun z50 h50 => ?_)
        refine xgoto ⟨u333, _, rfl⟩ ?_
        exact ih (t + 1) best _ _ (by omega) (by omega) hw hb36 hx
      · have dj : mN T t &&& u = 0 := by omega
        rw [if_pos dj] at hx
        refine xild 27 ⟨u333, _, rfl⟩ rfl rfl ?_
        refine xcst 28 (1) ⟨u333, _, rfl⟩ rfl (by decide) (fun z27 h27 => ?_)
        refine xald 29 ⟨u333, _, rfl⟩ rfl rfl ?_
        refine xild2 31 ⟨u333, _, rfl⟩ rfl rfl ?_
        refine xcst 32 (1) ⟨u333, _, rfl⟩ rfl (by decide) (fun z31 h31 => ?_)
        refine xadd 33 _ ⟨u333, _, rfl⟩ rfl rfl (by omega) (by omega) (fun z32 h32 => ?_)
        refine xild 34 ⟨u333, _, rfl⟩ rfl rfl ?_
        refine xald 35 ⟨u333, _, rfl⟩ rfl rfl ?_
        refine xgetR 38 75 hH ⟨u333, _, rfl⟩ rfl rfl ?_
        refine xild2 40 ⟨u333, _, rfl⟩ rfl rfl ?_
        refine xiald 41 (wt).toInt.toNat hH ⟨u333, _, rfl⟩ rfl (by decide) rfl (by omega) (by omega) (fun z40 h40 => ?_)
        refine xor_ 42 ⟨u333, _, rfl⟩ rfl ?_
        have e40 : z40.toInt = ((mN T t : Nat) : Int) := by rw [h40, et]; exact Lt
        have e41 := i_or hb e40 hu ml
        refine xcall 45 [.ref 66, .int _, .int _] [.int _, .int _] hH ⟨u333, _, rfl⟩ rfl rfl rfl rfl rfl (hC (t + 1) (u ||| mN T t) _ _ _ (by omega) e41.1 ol (by omega) (by rw [pq_or dj, e3]; exact Nat.le_refl _) (fun z42 h42 => ⟨_, rfl, ?_⟩))
        rw [show (trL T 225).length - (t + 1) = jj by omega] at h42
        refine xadd 46 _ ⟨u333, _, rfl⟩ rfl rfl (by omega) (by omega) (fun z45 h45 => ?_)
        refine xcallS 49 [.int _, .int _] [] hH ⟨u333, _, rfl⟩ rfl rfl rfl rfl rfl (k_max (fun z46 h46 => ⟨_, rfl, ?_⟩))
        refine xist 50 ⟨u333, _, rfl⟩ rfl rfl ?_
        refine xinc 53 (1) ⟨u333, _, rfl⟩ rfl rfl rfl (by decide) (by omega) (by omega) (fun z50 h50 => ?_)
        refine xgoto ⟨u333, _, rfl⟩ ?_
        exact ih (t + 1) (max best (1 + mo T jj (t + 1) (u ||| mN T t))) _ _ (by omega) (by omega) (by omega) (by omega) (by omega)
theorem k_333E {V : Nat} {T : sT} {hp : amH} (hH : bHk 84 bTT hp) (hL : rlN hp T 225) (hT : sOk V T) : ∀ (j t u d : Nat) (R : xQ) (a b : Int32), 15 ≤ pq u + 3 * j → a.toInt = (t : Int) → b.toInt = (u : Int) → u < 32768 → t ≤ (trL T 225).length →
    (∀ z : Int32, z.toInt = ((mo T ((trL T 225).length - t) t u : Nat) : Int) → R (.inl (some (.int z))) hp) → xK (d + 1 + j) 333 [.ref 66, .int a, .int b] hp R := by
  intro j
  induction j with
  | zero =>
    intro t u d R a b h15 ha hb hu ht hR
    refine xin (M := am_m333) rfl rfl rfl ?_
    refine xcst 1 (0) ⟨u333, _, rfl⟩ rfl (by decide) (fun z0 h0 => ?_)
    refine xist 2 ⟨u333, _, rfl⟩ rfl rfl ?_
    refine xild 3 ⟨u333, _, rfl⟩ rfl rfl ?_
    refine xist2 5 ⟨u333, _, rfl⟩ rfl rfl ?_
    exact l333E (d := d) hH hL hT hb hu (fun t2 m2 a2 b2 R2 g1 g2 g4 g5 g6 g7 => absurd (pq_15 g4) (by omega)) hR ((trL T 225).length - t) t 0 _ _ ha (by omega) (by omega) (by omega) (Nat.zero_max _)
  | succ j ih =>
    intro t u d R a b h15 ha hb hu ht hR
    refine xin (M := am_m333) rfl rfl rfl ?_
    refine xcst 1 (0) ⟨u333, _, rfl⟩ rfl (by decide) (fun z0 h0 => ?_)
    refine xist 2 ⟨u333, _, rfl⟩ rfl rfl ?_
    refine xild 3 ⟨u333, _, rfl⟩ rfl rfl ?_
    refine xist2 5 ⟨u333, _, rfl⟩ rfl rfl ?_
    exact l333E (d := d + 1 + j) hH hL hT hb hu (fun t2 m2 a2 b2 R2 g1 g2 g4 g5 g6 g7 => ih t2 m2 d R2 a2 b2 (by omega) g1 g2 g4 g5 g7) hR ((trL T 225).length - t) t 0 _ _ ha (by omega) (by omega) (by omega) (Nat.zero_max _)
theorem u334 : bUp 0 am_m334.1 = true := by decide +kernel
theorem k_334E {d V n : Nat} {h : Nat → sR} {sv : Option sR} {T : sT} {ty : Nat → Int} {hp : amH} {R : xQ} (hH : bHk 84 bTT hp) (hP : P0 hp) (hS : rfS hp (V, T, ty) n h sv)
    (hR : ∀ (z : Int32) hp1, bHk 84 bTT hp1 → P0 hp1 → bFr wM hp hp1 → rfS hp1 (V, T, ty) n h sv → z.toInt = ((mo T (trL T 225).length 0 0 : Nat) : Int) → R (.inl (some (.int z))) hp1) : xK (d + 8) 334 [.ref 66] hp R := by
  have hB : rdOk hp V T := rowOk_rd hS.1
  have b0 : rN hp 67 0 = (V : Int) := hB.1
  have hT0 : sOk V T := hB.2.1
  have h15 : V ≤ 15 := hT0.2.1
  have l35 : (trL T 225).length ≤ 35 := trL_35 hT0 225
  refine xin (M := am_m334) rfl rfl rfl ?_
  refine xald 1 ⟨u334, _, rfl⟩ rfl rfl ?_
  refine xcst 2 (0) ⟨u334, _, rfl⟩ rfl (by decide) (fun z1 h1 => ?_)
  refine xputI 5 hH ⟨u334, _, rfl⟩ rfl rfl ⟨rfl, rfl⟩ (by omega) (by omega) (fun hp2 hH2 U2 => ?_)
  have s2 := U2.1
  have S2 := rfS_W (W := [(66, 7)]) hS (rU_fr U2 rfl) (fun _ => rfl) rfl rfl (fun _ => rfl) (fun _ => rfl)
  have P2 := P0_W (W := [(66, 7)]) (by decide) (rU_fr U2 rfl) hP
  have B2 : rdOk hp2 V T := rowOk_rd S2.1
  refine xald 6 ⟨u334, _, rfl⟩ rfl rfl ?_
  refine xcall 9 [.ref 66] [] hH2 ⟨u334, _, rfl⟩ rfl rfl rfl rfl rfl (k_rlst hH2 B2 (fun hp6 hH6 F6 B6 L6 => ⟨_, rfl, ?_⟩))
  have P6 := P0_W (W := bLT) (by decide) F6 P2
  refine xald 10 ⟨u334, _, rfl⟩ rfl rfl ?_
  refine xcst 11 (0) ⟨u334, _, rfl⟩ rfl (by decide) (fun z10 h10 => ?_)
  refine xcst 12 (0) ⟨u334, _, rfl⟩ rfl (by decide) (fun z11 h11 => ?_)
  refine xcall 15 [.ref 66, .int _, .int _] [] hH6 ⟨u334, _, rfl⟩ rfl rfl rfl rfl rfl (k_333E hH6 L6 hT0 5 0 0 (d + 1) _ _ _ (by omega) (by omega) (by omega) (by omega) (by omega) (fun z12 h12 => ⟨_, rfl, ?_⟩))
  rw [Nat.sub_zero] at h12
  exact xret ⟨u334, _, rfl⟩ rfl (hR _ hp6 hH6 P6 ((rU_fr U2 (by decide)).trans (bFr_sub F6 (by decide))) (rfS_W S2 F6 (fun _ => rfl) rfl rfl (fun _ => rfl) (fun _ => rfl)) h12)
end
/-! ##### q58 ##### -/
section
/-! ===== inTheWay on both sides ===== -/
theorem u169 : bUp 0 am_m169.1 = true := by decide +kernel
theorem k_169E {d V n : Nat} {h : Nat → sR} {sv : Option sR} {T : sT} {ty : Nat → Int} {hp : amH} {R : xQ} {a b c : Int32} (hH : bHk 84 bTT hp) (hS : clS hp (V, T, ty) n h sv)
    (hT : ∀ E hp1, bHk 84 bTT hp1 → cF hp hp1 → clS hp1 (V, T, ty) n h sv → ¬ gSet V a.toInt b.toInt c.toInt = 0 → ((gSet V a.toInt b.toInt c.toInt = 1 ∧ E = 1) ∨ (gSet V a.toInt b.toInt c.toInt = 2 ∧ E = 0)) → R (.inr E) hp1)
    (hR : ∀ (z : Int32) hp1, bHk 84 bTT hp1 → cF hp hp1 → gSet V a.toInt b.toInt c.toInt = 0 → clS hp1 (V, T, ty) n h sv → z.toInt = iwV T a.toInt.toNat b.toInt.toNat c.toInt.toNat → R (.inl (some (.int z))) hp1) : xK (d + 4) 169 [.ref 0, .int a, .int b, .int c] hp R := by
  have hB : bdOk hp 3 V T := hS.1
  have b0 : rN hp 3 0 = (V : Int) := hB.1
  have hL : lsN hp 3 T 225 := hS.2.1
  have b1 : rN hp 3 1 = (((trL T 225).length : Nat) : Int) := hL.1
  have hT0 : sOk V T := hB.2.1
  have h15 : V ≤ 15 := hT0.2.1
  have l35 : (trL T 225).length ≤ 35 := trL_35 hT0 225
  have nq0 : rN hp 49 0 = ((nQ T : Nat) : Int) := hS.2.2.1.1
  refine xin (M := am_m169) rfl rfl rfl ?_
  refine xald 1 ⟨u169, _, rfl⟩ rfl rfl ?_
  refine xild 2 ⟨u169, _, rfl⟩ rfl rfl ?_
  refine xild 3 ⟨u169, _, rfl⟩ rfl rfl ?_
  refine xild 4 ⟨u169, _, rfl⟩ rfl rfl ?_
  refine xcallT 7 (o := 0) [.int _, .int _, .int _] [] hH ⟨u169, _, rfl⟩ rfl rfl (by decide) rfl (by decide) rfl ⟨rfl, rfl, rfl, rfl⟩ rfl (k_rq3 hH b0 (fun g4 => Or.inl ⟨_, rfl, ?_⟩) (fun g4 => Or.inr ⟨_, rfl, rfl, hT _ hp hH cF.refl hS (by omega) (Or.inl ⟨g4, rfl⟩)⟩) (fun g4 => Or.inr ⟨_, rfl, rfl, hT _ hp hH cF.refl hS (by omega) (Or.inr ⟨g4, rfl⟩)⟩))
  have k4 := gSet_0.mp g4
  refine xald 8 ⟨u169, _, rfl⟩ rfl rfl ?_
  refine xgetD 11 (3) hH ⟨u169, _, rfl⟩ rfl (by decide) (by decide) rfl rfl (by decide) ?_
  refine xild 12 ⟨u169, _, rfl⟩ rfl rfl ?_
  refine xild 13 ⟨u169, _, rfl⟩ rfl rfl ?_
  refine xild 14 ⟨u169, _, rfl⟩ rfl rfl ?_
  refine xcallS 17 [.int _, .int _, .int _] [.ref 3] hH ⟨u169, _, rfl⟩ rfl rfl rfl rfl rfl (k_three (x := a.toInt.toNat) (y := b.toInt.toNat) (z := c.toInt.toNat) (by omega) (by omega) (by omega) (by omega) (by omega) (by omega) (fun z14 h14 => ⟨_, rfl, ?_⟩))
  refine xcst 18 (2) ⟨u169, _, rfl⟩ rfl (by decide) (fun z17 h17 => ?_)
  refine xcallC 21 (o := 3) [.int _, .int _] [] hH ⟨u169, _, rfl⟩ rfl rfl (by decide) rfl (by decide) rfl ⟨rfl, rfl, rfl, rfl⟩ rfl (k_26E (m := m3 a.toInt.toNat b.toInt.toNat c.toInt.toNat) hT0 hH hL h14 (m3_lt (by omega) (by omega) (by omega)) (fun z18 h18 => ⟨_, rfl, ?_⟩))
  rw [h17, mt_3 hT0 (by omega) (by omega) (by omega) (by omega) (by omega) (by omega)] at h18
  exact xret ⟨u169, _, rfl⟩ rfl (hR _ _ hH cF.refl g4 hS h18)
theorem u271 : bUp 0 am_m271.1 = true := by decide +kernel
theorem k_271E {d V n : Nat} {h : Nat → sR} {sv : Option sR} {T : sT} {ty : Nat → Int} {hp : amH} {R : xQ} {a b c : Int32} (hH : bHk 84 bTT hp) (hP : P0 hp) (hS : rfS hp (V, T, ty) n h sv)
    (hR : ∀ (z : Int32) hp1, bHk 84 bTT hp1 → P0 hp1 → bFr wM hp hp1 → rN hp1 66 7 = gSet V a.toInt b.toInt c.toInt → ((¬ gSet V a.toInt b.toInt c.toInt = 0 ∧ rfS hp1 (V, T, ty) n h sv) ∨ (gSet V a.toInt b.toInt c.toInt = 0 ∧ rfS hp1 (V, T, ty) n h sv ∧ z.toInt = iwV T a.toInt.toNat b.toInt.toNat c.toInt.toNat)) → R (.inl (some (.int z))) hp1) : xK (d + 4) 271 [.ref 66, .int a, .int b, .int c] hp R := by
  have hB : rdOk hp V T := rowOk_rd hS.1
  have b0 : rN hp 67 0 = (V : Int) := hB.1
  have hT0 : sOk V T := hB.2.1
  have h15 : V ≤ 15 := hT0.2.1
  have l35 : (trL T 225).length ≤ 35 := trL_35 hT0 225
  refine xin (M := am_m271) rfl rfl rfl ?_
  refine xald 1 ⟨u271, _, rfl⟩ rfl rfl ?_
  refine xild 2 ⟨u271, _, rfl⟩ rfl rfl ?_
  refine xild 3 ⟨u271, _, rfl⟩ rfl rfl ?_
  refine xild 4 ⟨u271, _, rfl⟩ rfl rfl ?_
  refine xcall 7 [.ref 66, .int _, .int _, .int _] [] hH ⟨u271, _, rfl⟩ rfl rfl rfl rfl rfl (k_gp3 hH b0 h15 (fun z4 hp4 hH4 F4 t4 o4 => ⟨_, rfl, ?_⟩))
  have S4 := rfS_W hS F4 (fun _ => rfl) rfl rfl (fun _ => rfl) (fun _ => rfl)
  have P4 : P0 hp4 := P0_W (W := [(66, 7)]) (by decide) F4 hP
  refine xif_eq 10 ⟨u271, _, rfl⟩ rfl (fun c7 => ?_) (fun c7 => ?_)
  · have g4 : gSet V a.toInt b.toInt c.toInt = 0 := by omega
    have k4 := gSet_0.mp g4
    refine xald 13 ⟨u271, _, rfl⟩ rfl rfl ?_
    refine xild 14 ⟨u271, _, rfl⟩ rfl rfl ?_
    refine xild 15 ⟨u271, _, rfl⟩ rfl rfl ?_
    refine xcall 18 [.ref 66, .int _, .int _] [] hH4 ⟨u271, _, rfl⟩ rfl rfl rfl rfl rfl (k_third hH4 (by omega) (by omega) (by omega) (by omega) (fun z15 h15 => ⟨_, rfl, ?_⟩))
    have h15 := h15.trans ((show rdOk hp4 V T from rowOk_rd S4.1).2.2.1 a.toInt.toNat b.toInt.toNat (by omega) (by omega))
    refine xild 19 ⟨u271, _, rfl⟩ rfl rfl ?_
    refine xcmp_ne 22 ⟨u271, _, rfl⟩ rfl (fun c19 => ?_) (fun c19 => ?_)
    · refine xald 27 ⟨u271, _, rfl⟩ rfl rfl ?_
      refine xild 28 ⟨u271, _, rfl⟩ rfl rfl ?_
      refine xild 29 ⟨u271, _, rfl⟩ rfl rfl ?_
      refine xild 30 ⟨u271, _, rfl⟩ rfl rfl ?_
      refine xcall 33 [.ref 66, .int _, .int _, .int _] [] hH4 ⟨u271, _, rfl⟩ rfl rfl rfl rfl rfl (k_covin hH4 (by omega) (by omega) (by omega) (by omega) (by omega) (by omega) (fun z30 h30 => ⟨_, rfl, ?_⟩))
      rw [cv_T (show rdOk hp4 V T from rowOk_rd S4.1) (by omega) (by omega), cv_T (show rdOk hp4 V T from rowOk_rd S4.1) (by omega) (by omega), cv_T (show rdOk hp4 V T from rowOk_rd S4.1) (by omega) (by omega)] at h30
      exact xret ⟨u271, _, rfl⟩ rfl (hR _ hp4 hH4 P4 (bFr_sub F4 (by decide)) t4 (Or.inr ⟨g4, S4, by unfold iwV; rw [if_neg (by omega)]; exact h30⟩))
    · refine xcst 23 (1) ⟨u271, _, rfl⟩ rfl (by decide) (fun z22 h22 => ?_)
      refine xgoto ⟨u271, _, rfl⟩ ?_
      exact xret ⟨u271, _, rfl⟩ rfl (hR _ hp4 hH4 P4 (bFr_sub F4 (by decide)) t4 (Or.inr ⟨g4, S4, by unfold iwV; rw [if_pos (by omega)]; exact h22⟩))
  · refine xcst 11 (0) ⟨u271, _, rfl⟩ rfl (by decide) (fun z10 h10 => ?_)
    exact xret ⟨u271, _, rfl⟩ rfl (hR _ hp4 hH4 P4 (bFr_sub F4 (by decide)) t4 (Or.inl ⟨by omega, S4⟩))
theorem h381E {d : Nat} {hp : amH} {R : cQ} {x1 x2 x3 : Int32} {V n : Nat} {h : Nat → sR} {sv : Option sR} {T : sT} {ty : Nat → Int} (hI : lawI hp) (c : clS hp (V, T, ty) n h sv) (r : rfS hp (V, T, ty) n h sv)
    (hR : ∀ (z : Int32) hp1 mc ms, lawI hp1 → rfS hp1 (V, T, ty) n h sv → z.toInt = gSet V x1.toInt x2.toInt x3.toInt → ((¬ gSet V x1.toInt x2.toInt x3.toInt = 0 ∧ clS hp1 (V, T, ty) n h sv) ∨ (gSet V x1.toInt x2.toInt x3.toInt = 0 ∧ clS hp1 (V, T, ty) n h sv ∧ rJ hp1 83 0 = iwV T x1.toInt.toNat x2.toInt.toNat x3.toInt.toNat)) → mc ≤ 1 → ms ≤ 6 → R (.inl (some (.int z))) hp1 mc ms) : cK (d + 20) 381 [.ref 0, .int x1, .int x2, .int x3, .ref 83] hp R := by
  refine cin (M := am_m381) rfl rfl rfl ?_
  refine cald2 2 ⟨u381J, _, rfl⟩ rfl rfl ?_
  refine ccst 3 (0) ⟨u381J, _, rfl⟩ rfl (by decide) (fun z2 h2 => ?_)
  refine cald 4 ⟨u381J, _, rfl⟩ rfl rfl ?_
  refine cild 5 ⟨u381J, _, rfl⟩ rfl rfl ?_
  refine cild 6 ⟨u381J, _, rfl⟩ rfl rfl ?_
  refine cild 7 ⟨u381J, _, rfl⟩ rfl rfl ?_
  refine ccall (kd := 0) (t := 2) [.ref 0, .int _, .int _, .int _] [.int _, .ref 83] hI.1 ⟨u381J, _, rfl⟩ (Or.inl ⟨_, rfl, rfl, by decide, by decide⟩) rfl rfl rfl ⟨rfl, rfl, rfl⟩ rfl (recv0 hI.1 _) rfl (qKE (Φ := fun z hp1 => bHk 84 bTT hp1 ∧ cF hp hp1 ∧ gSet V x1.toInt x2.toInt x3.toInt = 0 ∧ clS hp1 (V, T, ty) n h sv ∧ z.toInt = iwV T x1.toInt.toNat x2.toInt.toNat x3.toInt.toNat) (Ψ := fun E hp1 => lawI hp1 ∧ rfS hp1 (V, T, ty) n h sv ∧ clS hp1 (V, T, ty) n h sv ∧ ¬ gSet V x1.toInt x2.toInt x3.toInt = 0 ∧ ((gSet V x1.toInt x2.toInt x3.toInt = 1 ∧ E = 1) ∨ (gSet V x1.toInt x2.toInt x3.toInt = 2 ∧ E = 0))) (fun R g1 g2 => k_169E (d := d + 15) hI.1 c (fun E hp1 b1 b2 b3 e1 e2 => g2 E hp1 ⟨law_cl hI b1 b2, cF_rf b2 r, b3, e1, e2⟩) (fun z hp1 a1 a2 a3 a4 a5 => g1 z hp1 ⟨a1, a2, a3, a4, a5⟩)) (fun z hp1 φ => Or.inl ⟨_, rfl, ?_⟩) (fun E hp1 ψ => Or.inr ?_))
  · refine ci2lE 11 ⟨u381J, _, rfl⟩ rfl (fun w hw => ?_)
    refine clastE 12 φ.1 ⟨u381J, _, rfl⟩ rfl h2 (fun hp2 hH2 F2 J2 => ?_)
    refine cgoto ⟨u381J, _, rfl⟩ ?_
    refine ccst 24 (0) ⟨u381J, _, rfl⟩ rfl (by decide) (fun z9 h9 => ?_)
    exact cret ⟨u381J, _, rfl⟩ (Or.inl rfl) (hR _ _ _ _ (lawI_83 (law_cl hI φ.1 φ.2.1) hH2 F2) (rf_83 F2 (cF_rf φ.2.1 r)) (by rw [φ.2.2.1]; exact h9) (Or.inr ⟨φ.2.2.1, cl_83 F2 φ.2.2.2.1, by rw [J2, hw]; exact φ.2.2.2.2⟩) (by decide) (by decide))
  · obtain ⟨ψ0, ψr, ψc, ψ1, ψ2⟩ := ψ
    rcases ψ2 with ⟨ce, rfl⟩ | ⟨ce, rfl⟩
    · refine ⟨1, 15, 5, 17, rfl, rfl, rfl, rfl, ?_⟩
      refine ccst 18 (1) ⟨u381J, _, rfl⟩ rfl (by decide) (fun z9 h9 => ?_)
      exact cret ⟨u381J, _, rfl⟩ (Or.inl rfl) (hR _ _ _ _ ψ0 ψr (by rw [ce]; exact h9) (Or.inl ⟨ψ1, ψc⟩) (by decide) (by decide))
    · refine ⟨0, 19, 5, 21, rfl, rfl, rfl, rfl, ?_⟩
      refine ccst 22 (2) ⟨u381J, _, rfl⟩ rfl (by decide) (fun z9 h9 => ?_)
      exact cret ⟨u381J, _, rfl⟩ (Or.inl rfl) (hR _ _ _ _ ψ0 ψr (by rw [ce]; exact h9) (Or.inl ⟨ψ1, ψc⟩) (by decide) (by decide))
end
/-! ##### q60 ##### -/
section
/-! ===== printAt on both sides: how much is written ===== -/
theorem sm_lt0 {f g : Nat → Nat} {n k : Nat} (h : ∀ i, i < n → f i ≤ g i) (hk : k < n) (h2 : f k < g k) : sm f n < sm g n := by
  have a : sm (fun i => f i + (if i = k then 1 else 0)) n = sm f n + sm (fun i => if i = k then 1 else 0) n := sm_add f (fun i => if i = k then 1 else 0) n
  have b : sm (fun i => if i = k then 1 else 0) n = 1 := sm_one hk (if_pos rfl) (fun i _ g => if_neg g)
  have c : sm (fun i => f i + (if i = k then 1 else 0)) n ≤ sm g n := sm_le n (fun i hi => by
    by_cases e : i = k
    · subst e; rw [if_pos rfl]; omega
    · rw [if_neg e]; have := h i hi; omega)
  omega
/-- how many of the first triples are at a point -/
def dB (T : sT) (p t : Nat) : Nat := sm (fun s => iv ((mN T s).testBit p = true)) t
theorem dB_s {T : sT} {p t : Nat} : dB T p (t + 1) = dB T p t + iv ((mN T t).testBit p = true) := rfl
theorem dB_7 {V : Nat} {T : sT} (hT : sOk V T) {p : Nat} (hp : p < 15) : dB T p (trL T 225).length ≤ 7 := by
  have h15 := hT.2.1
  have e : dB T p (trL T 225).length = mtC T (2 ^ p) 1 (trL T 225).length := by
    unfold dB mtC
    refine sm_ext _ (fun t ht => iv_eq ?_)
    obtain ⟨x, y, z, h1, h2, h3, h4, -, h6⟩ := on_pts hT ht
    have k := bc_one ⟨x, by omega⟩ ⟨y, by omega⟩ ⟨z, by omega⟩ ⟨p, hp⟩ h1 h2
    rw [h4, m3_test, decide_eq_true_iff]
    exact k.symm
  have d := deg_2 hT hp
  have l : sm (fun v => iv (¬ T p v = -1)) 15 < sm (fun _ => 1) 15 := sm_lt0 (k := p) (fun i _ => iv_le) hp (by
    rw [iv_f (p := ¬ T p p = -1) (fun g => by
      obtain ⟨c, -, -, -, -, k, -⟩ := sOk_at hT rfl g
      exact k rfl)]
    exact Nat.zero_lt_one)
  have c : sm (fun _ => 1) 15 = 15 := by decide
  omega
theorem dB_up {T : sT} {p a b : Nat} (h : a ≤ b) : dB T p a ≤ dB T p b := by
  obtain ⟨k, rfl⟩ := Nat.exists_eq_add_of_le h
  unfold dB
  rw [sm_split]
  exact Nat.le_add_right _ _
def wPr : List (Nat × Nat) := [(65, 999), (0, 11)]
theorem wPr_o {c k : Nat} (h : ¬ c = 65 ∧ ¬ c = 0) : bIn wPr c k = false := bIn_out (fun p hp z => by
  have d : ∀ p ∈ wPr, p.1 = 65 ∨ p.1 = 0 := by decide
  have := d p hp
  omega)
theorem wPr_cl {hp hp1 : amH} {q : sR} {n : Nat} {h : Nat → sR} {sv : Option sR} (F : bFr wPr hp hp1) (hS : clS hp q n h sv) : clS hp1 q n h sv := clS_8 hS (fun c k hc => F c k (wPr_o (by omega)))
theorem wPr_cF {hp hp1 : amH} (F : bFr wPr hp hp1) : cF hp hp1 := fun c k hc => F c k (wPr_o (by omega))
section XBO
variable {M : amM} {pc a b d : Nat} {L : List (Option Value)} {st : List Value} {hp : amH} {Q : xQ}
theorem xlenO (q : Nat) (hH : bHk 84 bTT hp) (h : xI M pc .arraylength a b) (e : q = pc + 1) (hw : ∀ z : Int32, z.toInt = 27 → xV d M q L (.int z :: st) hp Q) : xV d M pc L (.ref 65 :: st) hp Q := by
  obtain ⟨⟨t1, vs⟩, g1, g2, g3, -⟩ := bHk_at hH (i := 65) (by decide) (D := (34, 27, [.inl (2147483520, 2147483775)])) rfl
  have g2 : t1 = 34 := g2
  subst g2
  have g3 : vs.length = 27 := g3
  refine xstep h (fun cl hl => ⟨cl, ?_, hl⟩) (hw (Int32.ofNat 27) rfl)
  subst e
  simp [amDo, amStep, amScLen, amLen, g1, g3]
theorem xbastO (q m : Nat) {x v : Int32} (hH : bHk 84 bTT hp) (h : xI M pc .bastore a b) (e : q = pc + 1) (hn : x.toInt = (m : Int)) (hl : m < 27)
    (hw : ∀ hp1, bHk 84 bTT hp1 → bFr [(65, 999)] hp hp1 → xV d M q L st hp1 Q) : xV d M pc L (.int v :: .int x :: .ref 65 :: st) hp Q := by
  obtain ⟨z, z1, z2, z3⟩ := bNarB_s v
  have hy : bDy (34, 27, [.inl (2147483520, 2147483775)]) m = some (.inl (2147483520, 2147483775)) := rfl
  obtain ⟨vs, g1, g2, -⟩ := x_fI hH (c := 65) (by decide) rfl hy hl
  obtain ⟨k1, k2⟩ := x_set hH (x := z) (c := 65) rfl g1 g2 hy z2 z3 (by decide)
  obtain ⟨e1, e2⟩ := rw_in (m := vs.length) hn g2
  refine xstep h (fun cl hl => ⟨cl, ?_, hl⟩) (hw _ k1 (rU_fr k2 (bIn_all (by decide) _)))
  subst e
  simp only [amDo, amStep, amASt, g1, e2, e1, amIsI, z1, and_self, if_true, Option.map_some]
end XBO
theorem k_191E {d m : Nat} {hp : amH} {R : xQ} {c : Int32} (hH : bHk 84 bTT hp) (hm : rN hp 0 11 = (m : Int)) (h27 : m < 27)
    (hR : ∀ hp1, bHk 84 bTT hp1 → bFr wPr hp hp1 → rN hp1 0 11 = ((m + 1 : Nat) : Int) → R (.inl none) hp1) : xK d 191 [.ref 0, .int c] hp R := by
  have u191 : bUp 0 am_m191.1 = true := by decide +kernel
  refine xin (M := am_m191) rfl rfl rfl ?_
  refine xald 1 ⟨u191, _, rfl⟩ rfl rfl ?_
  refine xgetC 4 hH ⟨u191, _, rfl⟩ rfl (by decide) (by decide) rfl rfl (by decide) (fun z1 h1 => ?_)
  refine xald 5 ⟨u191, _, rfl⟩ rfl rfl ?_
  refine xgetD 8 (65) hH ⟨u191, _, rfl⟩ rfl (by decide) (by decide) rfl rfl (by decide) ?_
  refine xlenO 9 hH ⟨u191, _, rfl⟩ rfl (fun z8 h8 => ?_)
  refine xcmp_ge 12 ⟨u191, _, rfl⟩ rfl (fun c9 => ?_) (fun c9 => ?_)
  · omega
  · refine xald 13 ⟨u191, _, rfl⟩ rfl rfl ?_
    refine xgetD 16 (65) hH ⟨u191, _, rfl⟩ rfl (by decide) (by decide) rfl rfl (by decide) ?_
    refine xald 17 ⟨u191, _, rfl⟩ rfl rfl ?_
    refine xgetC 20 hH ⟨u191, _, rfl⟩ rfl (by decide) (by decide) rfl rfl (by decide) (fun z17 h17 => ?_)
    refine xild 21 ⟨u191, _, rfl⟩ rfl rfl ?_
    refine xi2bE 22 ⟨u191, _, rfl⟩ rfl (fun z21 h21 => ?_)
    refine xbastO 23 (z17).toInt.toNat hH ⟨u191, _, rfl⟩ rfl (by omega) (by omega) (fun hp22 hH22 F22 => ?_)
    have n22 : rN hp22 0 11 = rN hp 0 11 := r_fr F22 rfl
    refine xald 24 ⟨u191, _, rfl⟩ rfl rfl ?_
    refine xdup 25 ⟨u191, _, rfl⟩ rfl rfl ?_
    refine xgetC 28 hH22 ⟨u191, _, rfl⟩ rfl (by decide) (by decide) rfl rfl (by decide) (fun z25 h25 => ?_)
    refine xcst 29 (1) ⟨u191, _, rfl⟩ rfl (by decide) (fun z28 h28 => ?_)
    refine xadd 30 _ ⟨u191, _, rfl⟩ rfl rfl (by omega) (by omega) (fun z29 h29 => ?_)
    refine xputC 33 hH22 ⟨u191, _, rfl⟩ rfl (by decide) (by decide) rfl rfl (by decide) ⟨rfl, rfl⟩ (by omega) (by omega) (fun hp30 hH30 U30 => ?_)
    have s30 := U30.1
    exact xretV ⟨u191, _, rfl⟩ rfl (hR _ hH30 ((bFr_sub F22 (by decide)).trans (rU_fr U30 (by decide))) (by rw [s30]; omega))
theorem u190 : bUp 0 am_m190.1 = true := by decide +kernel
theorem l190E {d m ms : Nat} {hp0 : amH} {R : xQ} {s : Int32} (hs : s.toInt = (ms : Int)) (hms : ms < 32768) (hv : ∀ i, i < 3 → 0 ≤ memN ms i ∧ memN ms i < 15) (h27 : m + 3 ≤ 27)
    (hR : ∀ hp1, bHk 84 bTT hp1 → bFr wPr hp0 hp1 → rN hp1 0 11 = ((m + 3 : Nat) : Int) → R (.inl none) hp1) :
    ∀ (jj i : Nat) (wi : Int32) (v3 : Option Value) (hp : amH), wi.toInt = (i : Int) → i + jj = 3 → bHk 84 bTT hp → bFr wPr hp0 hp → rN hp 0 11 = ((m + i : Nat) : Int) → xV (d + 2) am_m190 15 [some (.ref 0), some (.int s), some (.int wi), v3] [] hp R := by
  intro jj
  induction jj with
  | zero =>
    intro i wi v3 hp hwi hj hH hF hm
    obtain rfl : i = 3 := by omega
    refine xild 16 ⟨u190, _, rfl⟩ rfl rfl ?_
    refine xcst 17 (3) ⟨u190, _, rfl⟩ rfl (by decide) (fun z16 h16 => ?_)
    refine xcmp_ge 20 ⟨u190, _, rfl⟩ rfl (fun c17 => ?_) (fun c17 => ?_)
    · exact xretV ⟨u190, _, rfl⟩ rfl (hR hp hH hF hm)
    · omega
  | succ jj ih =>
    intro i wi v3 hp hwi hj hH hF hm
    have vi := hv i (by omega)
    refine xild 16 ⟨u190, _, rfl⟩ rfl rfl ?_
    refine xcst 17 (3) ⟨u190, _, rfl⟩ rfl (by decide) (fun z16 h16 => ?_)
    refine xcmp_ge 20 ⟨u190, _, rfl⟩ rfl (fun c17 => ?_) (fun c17 => ?_)
    · omega
    · refine xild 21 ⟨u190, _, rfl⟩ rfl rfl ?_
      refine xild 22 ⟨u190, _, rfl⟩ rfl rfl ?_
      refine xcallS 25 [.int _, .int _] [] hH ⟨u190, _, rfl⟩ rfl rfl rfl rfl rfl (k_mem hH hs hms hwi (fun z22 h22 => ⟨_, rfl, ?_⟩))
      refine xist 26 ⟨u190, _, rfl⟩ rfl rfl ?_
      refine xald 27 ⟨u190, _, rfl⟩ rfl rfl ?_
      refine xild 28 ⟨u190, _, rfl⟩ rfl rfl ?_
      refine xbip 30 (10) ⟨u190, _, rfl⟩ rfl (by decide) (fun z28 h28 => ?_)
      refine xcmp_ge 33 ⟨u190, _, rfl⟩ rfl (fun c30 => ?_) (fun c30 => ?_)
      · refine xbip 42 (97) ⟨u190, _, rfl⟩ rfl (by decide) (fun z40 h40 => ?_)
        refine xild 43 ⟨u190, _, rfl⟩ rfl rfl ?_
        refine xadd 44 _ ⟨u190, _, rfl⟩ rfl rfl (by omega) (by omega) (fun z43 h43 => ?_)
        refine xbip 46 (10) ⟨u190, _, rfl⟩ rfl (by decide) (fun z44 h44 => ?_)
        refine xsub 47 _ ⟨u190, _, rfl⟩ rfl rfl (by omega) (by omega) (fun z46 h46 => ?_)
        refine xcallC 50 (o := 0) [.int _] [] hH ⟨u190, _, rfl⟩ rfl rfl (by decide) rfl (by decide) rfl ⟨rfl, rfl, rfl, rfl⟩ rfl (k_191E hH (m := m + i) hm (by omega) (fun hp47 hH47 F47 n47 => ⟨_, rfl, ?_⟩))
        refine xinc 53 (1) ⟨u190, _, rfl⟩ rfl rfl rfl (by decide) (by omega) (by omega) (fun z50 h50 => ?_)
        refine xgoto ⟨u190, _, rfl⟩ ?_
        exact ih (i + 1) _ _ hp47 (by omega) (by omega) hH47 (hF.trans F47) (by rw [n47]; rfl)
      · refine xbip 35 (48) ⟨u190, _, rfl⟩ rfl (by decide) (fun z33 h33 => ?_)
        refine xild 36 ⟨u190, _, rfl⟩ rfl rfl ?_
        refine xadd 37 _ ⟨u190, _, rfl⟩ rfl rfl (by omega) (by omega) (fun z36 h36 => ?_)
        refine xgoto ⟨u190, _, rfl⟩ ?_
        refine xcallC 50 (o := 0) [.int _] [] hH ⟨u190, _, rfl⟩ rfl rfl (by decide) rfl (by decide) rfl ⟨rfl, rfl, rfl, rfl⟩ rfl (k_191E hH (m := m + i) hm (by omega) (fun hp47 hH47 F47 n47 => ⟨_, rfl, ?_⟩))
        refine xinc 53 (1) ⟨u190, _, rfl⟩ rfl rfl rfl (by decide) (by omega) (by omega) (fun z50 h50 => ?_)
        refine xgoto ⟨u190, _, rfl⟩ ?_
        exact ih (i + 1) _ _ hp47 (by omega) (by omega) hH47 (hF.trans F47) (by rw [n47]; rfl)
theorem k_190E {d k ms : Nat} {hp : amH} {R : xQ} {s : Int32} (hH : bHk 84 bTT hp) (hs : s.toInt = (ms : Int)) (hms : ms < 32768) (hv : ∀ i, i < 3 → 0 ≤ memN ms i ∧ memN ms i < 15) (hm : rN hp 0 11 = ((4 * k - 1 : Nat) : Int)) (h6 : k ≤ 6)
    (hR : ∀ hp1, bHk 84 bTT hp1 → bFr wPr hp hp1 → rN hp1 0 11 = ((4 * (k + 1) - 1 : Nat) : Int) → R (.inl none) hp1) : xK (d + 2) 190 [.ref 0, .int s] hp R := by
  refine xin (M := am_m190) rfl rfl rfl ?_
  refine xald 1 ⟨u190, _, rfl⟩ rfl rfl ?_
  refine xgetC 4 hH ⟨u190, _, rfl⟩ rfl (by decide) (by decide) rfl rfl (by decide) (fun z1 h1 => ?_)
  refine xif_le 7 ⟨u190, _, rfl⟩ rfl (fun c4 => ?_) (fun c4 => ?_)
  · refine xcst 14 (0) ⟨u190, _, rfl⟩ rfl (by decide) (fun z13 h13 => ?_)
    refine xist 15 ⟨u190, _, rfl⟩ rfl rfl ?_
    refine xpad 1 ?_
    exact l190E (m := 0) hs hms hv (by omega) (fun hp1 g1 g2 g3 => hR hp1 g1 g2 (by rw [g3]; omega)) 3 0 _ _ hp (by omega) (by omega) hH (bFr.refl _ _) (by rw [hm]; omega)
  · refine xald 8 ⟨u190, _, rfl⟩ rfl rfl ?_
    refine xbip 10 (32) ⟨u190, _, rfl⟩ rfl (by decide) (fun z8 h8 => ?_)
    refine xcallC 13 (o := 0) [.int _] [] hH ⟨u190, _, rfl⟩ rfl rfl (by decide) rfl (by decide) rfl ⟨rfl, rfl, rfl, rfl⟩ rfl (k_191E hH (m := 4 * k - 1) hm (by omega) (fun hp10 hH10 F10 n10 => ⟨_, rfl, ?_⟩))
    refine xcst 14 (0) ⟨u190, _, rfl⟩ rfl (by decide) (fun z13 h13 => ?_)
    refine xist 15 ⟨u190, _, rfl⟩ rfl rfl ?_
    refine xpad 1 ?_
    exact l190E (m := 4 * k) hs hms hv (by omega) (fun hp1 g1 g2 g3 => hR hp1 g1 (F10.trans g2) (by rw [g3]; omega)) 3 0 _ _ hp10 (by omega) (by omega) hH10 (bFr.refl _ _) (by rw [n10]; omega)
theorem u171 : bUp 0 am_m171.1 = true := by decide +kernel
theorem l171E {d V p n : Nat} {h : Nat → sR} {sv : Option sR} {T : sT} {ty : Nat → Int} {hp0 : amH} {R : xQ} {a : Int32} (hS0 : clS hp0 (V, T, ty) n h sv) (ha : a.toInt = (p : Int)) (hpV : p < V)
    (hR : ∀ (z : Int32) hp1, bHk 84 bTT hp1 → bFr wPr hp0 hp1 → z.toInt = ((4 * dB T p (trL T 225).length - 1 : Nat) : Int) → R (.inl (some (.int z))) hp1) :
    ∀ (jj t : Nat) (wt : Int32) (hp : amH), wt.toInt = (t : Int) → t + jj = (trL T 225).length → bHk 84 bTT hp → bFr wPr hp0 hp → rN hp 0 11 = ((4 * dB T p t - 1 : Nat) : Int) → xV (d + 3) am_m171 12 [some (.ref 0), some (.int a), some (.int wt)] [] hp R := by
  have hT : sOk V T := hS0.1.2.1
  have hV := hT.2.1
  have l35 := trL_35 hT 225
  have d7 := dB_7 hT (show p < 15 by omega)
  intro jj
  induction jj with
  | zero =>
    intro t wt hp hwt hj hH hF hm
    have hS := wPr_cl hF hS0
    have b1 : rN hp 3 1 = (((trL T 225).length : Nat) : Int) := hS.2.1.1
    obtain rfl : t = (trL T 225).length := by omega
    refine xild 13 ⟨u171, _, rfl⟩ rfl rfl ?_
    refine xald 14 ⟨u171, _, rfl⟩ rfl rfl ?_
    refine xgetD 17 (3) hH ⟨u171, _, rfl⟩ rfl (by decide) (by decide) rfl rfl (by decide) ?_
    refine xgetC 20 hH ⟨u171, _, rfl⟩ rfl (by decide) (by decide) rfl rfl (by decide) (fun z17 h17 => ?_)
    refine xcmp_ge 23 ⟨u171, _, rfl⟩ rfl (fun c20 => ?_) (fun c20 => ?_)
    · refine xald 57 ⟨u171, _, rfl⟩ rfl rfl ?_
      refine xgetC 60 hH ⟨u171, _, rfl⟩ rfl (by decide) (by decide) rfl rfl (by decide) (fun z57 h57 => ?_)
      exact xret ⟨u171, _, rfl⟩ rfl (hR _ hp hH hF (by omega))
    · omega
  | succ jj ih =>
    intro t wt hp hwt hj hH hF hm
    have hS := wPr_cl hF hS0
    have hL : lsN hp 3 T 225 := hS.2.1
    have b1 : rN hp 3 1 = (((trL T 225).length : Nat) : Int) := hL.1
    have ht : t < (trL T 225).length := by omega
    have ml := (mN_lt hT ht).1
    have es := dB_s (T := T) (p := p) (t := t)
    have up := dB_up (T := T) (p := p) (show t + 1 ≤ (trL T 225).length by omega)
    have hv : ∀ i, i < 3 → 0 ≤ memN (mN T t) i ∧ memN (mN T t) i < 15 := fun i hi => by
      obtain ⟨x, y, z, h1, h2, h3, h4, -, -⟩ := on_pts hT ht
      obtain ⟨m1, m2, m3'⟩ := mem3 h1 h2 (show z < 15 by omega)
      rw [h4]
      rcases (show i = 0 ∨ i = 1 ∨ i = 2 by omega) with e | e | e <;> rw [e] <;> omega
    refine xild 13 ⟨u171, _, rfl⟩ rfl rfl ?_
    refine xald 14 ⟨u171, _, rfl⟩ rfl rfl ?_
    refine xgetD 17 (3) hH ⟨u171, _, rfl⟩ rfl (by decide) (by decide) rfl rfl (by decide) ?_
    refine xgetC 20 hH ⟨u171, _, rfl⟩ rfl (by decide) (by decide) rfl rfl (by decide) (fun z17 h17 => ?_)
    refine xcmp_ge 23 ⟨u171, _, rfl⟩ rfl (fun c20 => ?_) (fun c20 => ?_)
    · omega
    · refine xald 24 ⟨u171, _, rfl⟩ rfl rfl ?_
      refine xgetD 27 (3) hH ⟨u171, _, rfl⟩ rfl (by decide) (by decide) rfl rfl (by decide) ?_
      refine xild 28 ⟨u171, _, rfl⟩ rfl rfl ?_
      refine xcallC 31 (o := 3) [.int _] [] hH ⟨u171, _, rfl⟩ rfl rfl (by decide) rfl (by decide) rfl ⟨rfl, rfl, rfl, rfl⟩ rfl (k_setL hH hL (t := t) hwt ht (fun z28 h28 => ⟨_, rfl, ?_⟩))
      refine xild 32 ⟨u171, _, rfl⟩ rfl rfl ?_
      refine xcallS 35 [.int _, .int _] [] hH ⟨u171, _, rfl⟩ rfl rfl rfl rfl rfl (k_has h28 ml ha (by omega) (fun z32 h32 => ⟨_, rfl, ?_⟩))
      refine xif_eq 38 ⟨u171, _, rfl⟩ rfl (fun c35 => ?_) (fun c35 => ?_)
      · have nb : ¬ (mN T t).testBit p = true := fun g => by rw [if_pos g] at h32; omega
        rw [iv_f nb, Nat.add_zero] at es
        refine xinc 53 (1) ⟨u171, _, rfl⟩ rfl rfl rfl (by decide) (by omega) (by omega) (fun z50 h50 => ?_)
        refine xgoto ⟨u171, _, rfl⟩ ?_
        exact ih (t + 1) _ hp (by omega) (by omega) hH hF (by rw [es]; exact hm)
      · have yb : (mN T t).testBit p = true := Classical.byContradiction (fun g => by rw [if_neg g] at h32; omega)
        rw [iv_t yb] at es
        refine xald 39 ⟨u171, _, rfl⟩ rfl rfl ?_
        refine xald 40 ⟨u171, _, rfl⟩ rfl rfl ?_
        refine xgetD 43 (3) hH ⟨u171, _, rfl⟩ rfl (by decide) (by decide) rfl rfl (by decide) ?_
        refine xild 44 ⟨u171, _, rfl⟩ rfl rfl ?_
        refine xcallC 47 (o := 3) [.int _] [.ref 0] hH ⟨u171, _, rfl⟩ rfl rfl (by decide) rfl (by decide) rfl ⟨rfl, rfl, rfl, rfl⟩ rfl (k_setL hH hL (t := t) hwt ht (fun z44 h44 => ⟨_, rfl, ?_⟩))
        refine xcallC 50 (o := 0) [.int _] [] hH ⟨u171, _, rfl⟩ rfl rfl (by decide) rfl (by decide) rfl ⟨rfl, rfl, rfl, rfl⟩ rfl (k_190E (k := dB T p t) hH h44 ml hv hm (by omega) (fun hp47 hH47 F47 n47 => ⟨_, rfl, ?_⟩))
        refine xinc 53 (1) ⟨u171, _, rfl⟩ rfl rfl rfl (by decide) (by omega) (by omega) (fun z50 h50 => ?_)
        refine xgoto ⟨u171, _, rfl⟩ ?_
        exact ih (t + 1) _ hp47 (by omega) (by omega) hH47 (hF.trans F47) (by rw [n47, es])
theorem k_171E {d V n : Nat} {h : Nat → sR} {sv : Option sR} {T : sT} {ty : Nat → Int} {hp : amH} {R : xQ} {a : Int32} (hH : bHk 84 bTT hp) (hS : clS hp (V, T, ty) n h sv)
    (hT : ∀ E hp1, bHk 84 bTT hp1 → cF hp hp1 → clS hp1 (V, T, ty) n h sv → ¬ gPt V a.toInt = 0 → ((gPt V a.toInt = 1 ∧ E = 1)) → R (.inr E) hp1)
    (hR : ∀ (z : Int32) hp1, bHk 84 bTT hp1 → cF hp hp1 → gPt V a.toInt = 0 → clS hp1 (V, T, ty) n h sv → z.toInt = ((4 * dB T a.toInt.toNat (trL T 225).length - 1 : Nat) : Int) → R (.inl (some (.int z))) hp1) : xK (d + 5) 171 [.ref 0, .int a] hp R := by
  have hB : bdOk hp 3 V T := hS.1
  have b0 : rN hp 3 0 = (V : Int) := hB.1
  have hL : lsN hp 3 T 225 := hS.2.1
  have b1 : rN hp 3 1 = (((trL T 225).length : Nat) : Int) := hL.1
  have hT0 : sOk V T := hB.2.1
  have h15 : V ≤ 15 := hT0.2.1
  have l35 : (trL T 225).length ≤ 35 := trL_35 hT0 225
  have nq0 : rN hp 49 0 = ((nQ T : Nat) : Int) := hS.2.2.1.1
  refine xin (M := am_m171) rfl rfl rfl ?_
  refine xald 1 ⟨u171, _, rfl⟩ rfl rfl ?_
  refine xild 2 ⟨u171, _, rfl⟩ rfl rfl ?_
  refine xcallT 5 (o := 0) [.int _] [] hH ⟨u171, _, rfl⟩ rfl rfl (by decide) rfl (by decide) rfl ⟨rfl, rfl, rfl, rfl⟩ rfl (k_rq1 hH b0 (fun g2 => Or.inl ⟨_, rfl, ?_⟩) (fun g2 => Or.inr ⟨_, rfl, rfl, hT _ hp hH cF.refl hS (by omega) ⟨g2, rfl⟩⟩))
  have k2 := gPt_0.mp g2
  refine xald 6 ⟨u171, _, rfl⟩ rfl rfl ?_
  refine xcst 7 (0) ⟨u171, _, rfl⟩ rfl (by decide) (fun z6 h6 => ?_)
  refine xputC 10 hH ⟨u171, _, rfl⟩ rfl (by decide) (by decide) rfl rfl (by decide) ⟨rfl, rfl⟩ (by omega) (by omega) (fun hp7 hH7 U7 => ?_)
  have s7 := U7.1
  refine xcst 11 (0) ⟨u171, _, rfl⟩ rfl (by decide) (fun z10 h10 => ?_)
  refine xist 12 ⟨u171, _, rfl⟩ rfl rfl ?_
  have S7 : clS hp7 (V, T, ty) n h sv := wPr_cl (rU_fr U7 (by decide)) hS
  exact l171E (p := a.toInt.toNat) S7 (by omega) (by omega) (fun z hp1 g1 g3 g4 => hR z hp1 g1 ((wPr_cF (rU_fr U7 (by decide))).trans (wPr_cF g3)) g2 (wPr_cl g3 S7) g4) (trL T 225).length 0 _ hp7 (by omega) (by omega) hH7 (bFr.refl _ _) (by rw [U7.1, h6]; rfl)
theorem l337E {d V p n : Nat} {h : Nat → sR} {sv : Option sR} {T : sT} {ty : Nat → Int} {hp0 : amH} {R : xQ} {a : Int32} (hT : sOk V T) (hL0 : rlN hp0 T 225) (ha : a.toInt = (p : Int)) (hpV : p < V)
    (hR : ∀ (z : Int32) hp1, bHk 84 bTT hp1 → P0 hp1 → bFr wOut hp0 hp1 → z.toInt = ((4 * dB T p (trL T 225).length - 1 : Nat) : Int) → R (.inl (some (.int z))) hp1) :
    ∀ (jj t : Nat) (wt : Int32) (hp : amH), wt.toInt = (t : Int) → t + jj = (trL T 225).length → bHk 84 bTT hp → P0 hp → bFr wOut hp0 hp → rN hp 66 32 = ((4 * dB T p t - 1 : Nat) : Int) → xV (d + 2) am_m337 21 [some (.ref 66), some (.int a), some (.int wt)] [] hp R := by
  have hV := hT.2.1
  have l35 := trL_35 hT 225
  have d7 := dB_7 hT (show p < 15 by omega)
  intro jj
  induction jj with
  | zero =>
    intro t wt hp hwt hj hH hP hF hm
    have b1 : rN hp 66 12 = (((trL T 225).length : Nat) : Int) := (r_fr hF rfl).trans hL0.1
    obtain rfl : t = (trL T 225).length := by omega
    refine xild 22 ⟨u337, _, rfl⟩ rfl rfl ?_
    refine xald 23 ⟨u337, _, rfl⟩ rfl rfl ?_
    refine xgetI 26 hH ⟨u337, _, rfl⟩ rfl rfl (fun z23 h23 => ?_)
    refine xcmp_ge 29 ⟨u337, _, rfl⟩ rfl (fun c26 => ?_) (fun c26 => ?_)
    · refine xald 95 ⟨u337, _, rfl⟩ rfl rfl ?_
      refine xgetI 98 hH ⟨u337, _, rfl⟩ rfl rfl (fun z95 h95 => ?_)
      exact xret ⟨u337, _, rfl⟩ rfl (hR _ hp hH hP hF (by omega))
    · omega
  | succ jj ih =>
    intro t wt hp hwt hj hH hP hF hm
    have hL : rlN hp T 225 := rlN_fr hL0 (r_fr hF rfl) (fun _ => r_fr hF rfl) (fun _ => r_fr hF rfl) (fun _ => r_fr hF rfl) (fun _ => r_fr hF rfl)
    have b1 : rN hp 66 12 = (((trL T 225).length : Nat) : Int) := hL.1
    have ht : t < (trL T 225).length := by omega
    have et : wt.toInt.toNat = t := by omega
    have ml := (mN_lt hT ht).1
    have es := dB_s (T := T) (p := p) (t := t)
    have up := dB_up (T := T) (p := p) (show t + 1 ≤ (trL T 225).length by omega)
    have Lt := (hL.2 t ht).2.2.2
    obtain ⟨x, y, z, h1, h2, h3, h4, -, -⟩ := on_pts hT ht
    obtain ⟨o1, o2, o3⟩ := rl_at hT hL ht h4 h1 h2
    refine xild 22 ⟨u337, _, rfl⟩ rfl rfl ?_
    refine xald 23 ⟨u337, _, rfl⟩ rfl rfl ?_
    refine xgetI 26 hH ⟨u337, _, rfl⟩ rfl rfl (fun z23 h23 => ?_)
    refine xcmp_ge 29 ⟨u337, _, rfl⟩ rfl (fun c26 => ?_) (fun c26 => ?_)
    · omega
    · refine xald 30 ⟨u337, _, rfl⟩ rfl rfl ?_
      refine xgetR 33 75 hH ⟨u337, _, rfl⟩ rfl rfl ?_
      refine xild 34 ⟨u337, _, rfl⟩ rfl rfl ?_
      refine xiald 35 (wt).toInt.toNat hH ⟨u337, _, rfl⟩ rfl (by decide) rfl (by omega) (by omega) (fun z34 h34 => ?_)
      refine xild 36 ⟨u337, _, rfl⟩ rfl rfl ?_
      refine xshr 37 ⟨u337, _, rfl⟩ rfl ?_
      refine xcst 38 (1) ⟨u337, _, rfl⟩ rfl (by decide) (fun z37 h37 => ?_)
      refine xand 39 ⟨u337, _, rfl⟩ rfl ?_
      have e34 : z34.toInt = ((mN T t : Nat) : Int) := by rw [h34, et]; exact Lt
      have w1 := i_shr e34 ml ha (by omega)
      have w2 := i_and w1.1 (b := 1) h37 w1.2
      have w3 : mN T t >>> p &&& 1 = ((mN T t).testBit p).toNat := by
        rw [Nat.and_one_is_mod, Nat.shiftRight_eq_div_pow, Nat.testBit_eq_decide_div_mod_eq]
        by_cases h : mN T t / 2 ^ p % 2 = 1
        · rw [h]; rfl
        · have : mN T t / 2 ^ p % 2 = 0 := by omega
          rw [this]; rfl
      rw [w3] at w2
      refine xif_ne 42 ⟨u337, _, rfl⟩ rfl (fun c39 => ?_) (fun c39 => ?_)
      · have yb : (mN T t).testBit p = true := by
          cases e : (mN T t).testBit p with
          | true => rfl
          | false => rw [e, show Bool.toNat false = 0 from rfl] at w2; omega
        rw [iv_t yb] at es
        refine xald 46 ⟨u337, _, rfl⟩ rfl rfl ?_
        refine xgetI 49 hH ⟨u337, _, rfl⟩ rfl rfl (fun z46 h46 => ?_)
        refine xif_le 52 ⟨u337, _, rfl⟩ rfl (fun c49 => ?_) (fun c49 => ?_)
        · refine xald 59 ⟨u337, _, rfl⟩ rfl rfl ?_
          refine xald 60 ⟨u337, _, rfl⟩ rfl rfl ?_
          refine xgetR 63 72 hH ⟨u337, _, rfl⟩ rfl rfl ?_
          refine xild 64 ⟨u337, _, rfl⟩ rfl rfl ?_
          refine xiald 65 (wt).toInt.toNat hH ⟨u337, _, rfl⟩ rfl (by decide) rfl (by omega) (by omega) (fun z64 h64 => ?_)
          refine xcall 68 [.ref 66, .int _] [] hH ⟨u337, _, rfl⟩ rfl rfl rfl rfl rfl (k_wp hH hP (o := 4 * dB T p t - 1) hm (by omega) (by rw [h64, et, o1]; omega) (by rw [h64, et, o1]; omega) (fun hp65 hH65 P65 F65 n65 => ⟨_, rfl, ?_⟩))
          refine xald 69 ⟨u337, _, rfl⟩ rfl rfl ?_
          refine xald 70 ⟨u337, _, rfl⟩ rfl rfl ?_
          refine xgetR 73 73 hH65 ⟨u337, _, rfl⟩ rfl rfl ?_
          refine xild 74 ⟨u337, _, rfl⟩ rfl rfl ?_
          refine xiald 75 (wt).toInt.toNat hH65 ⟨u337, _, rfl⟩ rfl (by decide) rfl (by omega) (by omega) (fun z74 h74 => ?_)
          refine xcall 78 [.ref 66, .int _] [] hH65 ⟨u337, _, rfl⟩ rfl rfl rfl rfl rfl (k_wp hH65 P65 (o := 4 * dB T p t - 1 + 1) n65 (by omega) (by rw [h74, et, show rN hp65 73 t = rN hp 73 t from r_fr F65 rfl, o2]; omega) (by rw [h74, et, show rN hp65 73 t = rN hp 73 t from r_fr F65 rfl, o2]; omega) (fun hp75 hH75 P75 F75 n75 => ⟨_, rfl, ?_⟩))
          refine xald 79 ⟨u337, _, rfl⟩ rfl rfl ?_
          refine xald 80 ⟨u337, _, rfl⟩ rfl rfl ?_
          refine xgetR 83 74 hH75 ⟨u337, _, rfl⟩ rfl rfl ?_
          refine xild 84 ⟨u337, _, rfl⟩ rfl rfl ?_
          refine xiald 85 (wt).toInt.toNat hH75 ⟨u337, _, rfl⟩ rfl (by decide) rfl (by omega) (by omega) (fun z84 h84 => ?_)
          refine xcall 88 [.ref 66, .int _] [] hH75 ⟨u337, _, rfl⟩ rfl rfl rfl rfl rfl (k_wp hH75 P75 (o := 4 * dB T p t - 1 + 1 + 1) n75 (by omega) (by rw [h84, et, show rN hp75 74 t = rN hp65 74 t from r_fr F75 rfl, show rN hp65 74 t = rN hp 74 t from r_fr F65 rfl, o3]; omega) (by rw [h84, et, show rN hp75 74 t = rN hp65 74 t from r_fr F75 rfl, show rN hp65 74 t = rN hp 74 t from r_fr F65 rfl, o3]; omega) (fun hp85 hH85 P85 F85 n85 => ⟨_, rfl, ?_⟩))
          refine xinc 91 (1) ⟨u337, _, rfl⟩ rfl rfl rfl (by decide) (by omega) (by omega) (fun z88 h88 => ?_)
          refine xgoto ⟨u337, _, rfl⟩ ?_
          exact ih (t + 1) _ hp85 (by omega) (by omega) hH85 P85 (((hF.trans F65).trans F75).trans F85) (by rw [n85, es]; omega)
        · refine xald 53 ⟨u337, _, rfl⟩ rfl rfl ?_
          refine xbip 55 (32) ⟨u337, _, rfl⟩ rfl (by decide) (fun z53 h53 => ?_)
          refine xcall 58 [.ref 66, .int _] [] hH ⟨u337, _, rfl⟩ rfl rfl rfl rfl rfl (k_write hH hP (o := 4 * dB T p t - 1) hm (by omega) (fun hp55 hH55 P55 F55 n55 => ⟨_, rfl, ?_⟩))
          refine xald 59 ⟨u337, _, rfl⟩ rfl rfl ?_
          refine xald 60 ⟨u337, _, rfl⟩ rfl rfl ?_
          refine xgetR 63 72 hH55 ⟨u337, _, rfl⟩ rfl rfl ?_
          refine xild 64 ⟨u337, _, rfl⟩ rfl rfl ?_
          refine xiald 65 (wt).toInt.toNat hH55 ⟨u337, _, rfl⟩ rfl (by decide) rfl (by omega) (by omega) (fun z64 h64 => ?_)
          refine xcall 68 [.ref 66, .int _] [] hH55 ⟨u337, _, rfl⟩ rfl rfl rfl rfl rfl (k_wp hH55 P55 (o := 4 * dB T p t - 1 + 1) n55 (by omega) (by rw [h64, et, show rN hp55 72 t = rN hp 72 t from r_fr F55 rfl, o1]; omega) (by rw [h64, et, show rN hp55 72 t = rN hp 72 t from r_fr F55 rfl, o1]; omega) (fun hp65 hH65 P65 F65 n65 => ⟨_, rfl, ?_⟩))
          refine xald 69 ⟨u337, _, rfl⟩ rfl rfl ?_
          refine xald 70 ⟨u337, _, rfl⟩ rfl rfl ?_
          refine xgetR 73 73 hH65 ⟨u337, _, rfl⟩ rfl rfl ?_
          refine xild 74 ⟨u337, _, rfl⟩ rfl rfl ?_
          refine xiald 75 (wt).toInt.toNat hH65 ⟨u337, _, rfl⟩ rfl (by decide) rfl (by omega) (by omega) (fun z74 h74 => ?_)
          refine xcall 78 [.ref 66, .int _] [] hH65 ⟨u337, _, rfl⟩ rfl rfl rfl rfl rfl (k_wp hH65 P65 (o := 4 * dB T p t - 1 + 1 + 1) n65 (by omega) (by rw [h74, et, show rN hp65 73 t = rN hp55 73 t from r_fr F65 rfl, show rN hp55 73 t = rN hp 73 t from r_fr F55 rfl, o2]; omega) (by rw [h74, et, show rN hp65 73 t = rN hp55 73 t from r_fr F65 rfl, show rN hp55 73 t = rN hp 73 t from r_fr F55 rfl, o2]; omega) (fun hp75 hH75 P75 F75 n75 => ⟨_, rfl, ?_⟩))
          refine xald 79 ⟨u337, _, rfl⟩ rfl rfl ?_
          refine xald 80 ⟨u337, _, rfl⟩ rfl rfl ?_
          refine xgetR 83 74 hH75 ⟨u337, _, rfl⟩ rfl rfl ?_
          refine xild 84 ⟨u337, _, rfl⟩ rfl rfl ?_
          refine xiald 85 (wt).toInt.toNat hH75 ⟨u337, _, rfl⟩ rfl (by decide) rfl (by omega) (by omega) (fun z84 h84 => ?_)
          refine xcall 88 [.ref 66, .int _] [] hH75 ⟨u337, _, rfl⟩ rfl rfl rfl rfl rfl (k_wp hH75 P75 (o := 4 * dB T p t - 1 + 1 + 1 + 1) n75 (by omega) (by rw [h84, et, show rN hp75 74 t = rN hp65 74 t from r_fr F75 rfl, show rN hp65 74 t = rN hp55 74 t from r_fr F65 rfl, show rN hp55 74 t = rN hp 74 t from r_fr F55 rfl, o3]; omega) (by rw [h84, et, show rN hp75 74 t = rN hp65 74 t from r_fr F75 rfl, show rN hp65 74 t = rN hp55 74 t from r_fr F65 rfl, show rN hp55 74 t = rN hp 74 t from r_fr F55 rfl, o3]; omega) (fun hp85 hH85 P85 F85 n85 => ⟨_, rfl, ?_⟩))
          refine xinc 91 (1) ⟨u337, _, rfl⟩ rfl rfl rfl (by decide) (by omega) (by omega) (fun z88 h88 => ?_)
          refine xgoto ⟨u337, _, rfl⟩ ?_
          exact ih (t + 1) _ hp85 (by omega) (by omega) hH85 P85 ((((hF.trans F55).trans F65).trans F75).trans F85) (by rw [n85, es]; omega)
      · have nb : ¬ (mN T t).testBit p = true := fun g => by rw [g, show Bool.toNat true = 1 from rfl] at w2; omega
        rw [iv_f nb, Nat.add_zero] at es
        refine xgoto ⟨u337, _, rfl⟩ ?_
        refine xinc 91 (1) ⟨u337, _, rfl⟩ rfl rfl rfl (by decide) (by omega) (by omega) (fun z88 h88 => ?_)
        refine xgoto ⟨u337, _, rfl⟩ ?_
        exact ih (t + 1) _ hp (by omega) (by omega) hH hP hF (by rw [es]; exact hm)
theorem k_337E {d V n : Nat} {h : Nat → sR} {sv : Option sR} {T : sT} {ty : Nat → Int} {hp : amH} {R : xQ} {a : Int32} (hH : bHk 84 bTT hp) (hP : P0 hp) (hS : rfS hp (V, T, ty) n h sv)
    (hR : ∀ (z : Int32) hp1, bHk 84 bTT hp1 → P0 hp1 → bFr wM hp hp1 → rN hp1 66 7 = gPt V a.toInt → ((¬ gPt V a.toInt = 0 ∧ rfS hp1 (V, T, ty) n h sv) ∨ (gPt V a.toInt = 0 ∧ rfS hp1 (V, T, ty) n h sv ∧ z.toInt = ((4 * dB T a.toInt.toNat (trL T 225).length - 1 : Nat) : Int))) → R (.inl (some (.int z))) hp1) : xK (d + 3) 337 [.ref 66, .int a] hp R := by
  have hB : rdOk hp V T := rowOk_rd hS.1
  have b0 : rN hp 67 0 = (V : Int) := hB.1
  have hT0 : sOk V T := hB.2.1
  have h15 : V ≤ 15 := hT0.2.1
  have l35 : (trL T 225).length ≤ 35 := trL_35 hT0 225
  refine xin (M := am_m337) rfl rfl rfl ?_
  refine xald 1 ⟨u337, _, rfl⟩ rfl rfl ?_
  refine xild 2 ⟨u337, _, rfl⟩ rfl rfl ?_
  refine xcall 5 [.ref 66, .int _] [] hH ⟨u337, _, rfl⟩ rfl rfl rfl rfl rfl (k_gp1 hH b0 h15 (fun z2 hp2 hH2 F2 t2 o2 => ⟨_, rfl, ?_⟩))
  have S2 := rfS_W hS F2 (fun _ => rfl) rfl rfl (fun _ => rfl) (fun _ => rfl)
  have P2 : P0 hp2 := P0_W (W := [(66, 7)]) (by decide) F2 hP
  refine xif_eq 8 ⟨u337, _, rfl⟩ rfl (fun c5 => ?_) (fun c5 => ?_)
  · have g2 : gPt V a.toInt = 0 := by omega
    have k2 := gPt_0.mp g2
    refine xald 11 ⟨u337, _, rfl⟩ rfl rfl ?_
    refine xcall 14 [.ref 66] [] hH2 ⟨u337, _, rfl⟩ rfl rfl rfl rfl rfl (k_rlst hH2 (V := V) (T := T) (show rdOk hp2 V T from rowOk_rd S2.1) (fun hp11 hH11 F11 B11 L11 => ⟨_, rfl, ?_⟩))
    have S11 := rfS_W S2 F11 (fun _ => rfl) rfl rfl (fun _ => rfl) (fun _ => rfl)
    have P11 : P0 hp11 := P0_W (W := bLT) (by decide) F11 P2
    refine xald 15 ⟨u337, _, rfl⟩ rfl rfl ?_
    refine xcst 16 (0) ⟨u337, _, rfl⟩ rfl (by decide) (fun z15 h15 => ?_)
    refine xputI 19 hH11 ⟨u337, _, rfl⟩ rfl rfl ⟨rfl, rfl⟩ (by omega) (by omega) (fun hp16 hH16 U16 => ?_)
    have s16 := U16.1
    refine xcst 20 (0) ⟨u337, _, rfl⟩ rfl (by decide) (fun z19 h19 => ?_)
    refine xist 21 ⟨u337, _, rfl⟩ rfl rfl ?_
    have S16 := rfS_W (W := [(66, 32)]) S11 (rU_fr U16 rfl) (fun _ => rfl) rfl rfl (fun _ => rfl) (fun _ => rfl)
    have P16 : P0 hp16 := P0_W (W := [(66, 32)]) (by decide) (rU_fr U16 rfl) P11
    have L16 : rlN hp16 T 225 := rlN_fr L11 (rU_ne U16 (by omega)) (fun _ => rU_ne U16 (by omega)) (fun _ => rU_ne U16 (by omega)) (fun _ => rU_ne U16 (by omega)) (fun _ => rU_ne U16 (by omega))
    have t16 : rN hp16 66 7 = gPt V a.toInt := by rw [show rN hp16 66 7 = rN hp11 66 7 from rU_ne U16 (by omega), show rN hp11 66 7 = rN hp2 66 7 from r_fr F11 rfl]; exact t2
    exact l337E (n := n) (h := h) (sv := sv) (ty := ty) (p := a.toInt.toNat) hT0 L16 (by omega) (by omega) (fun z hp1 g1 g2' g3 g4 => hR z hp1 g1 g2' ((bFr_sub F2 (by decide)).trans ((bFr_sub F11 (by decide)).trans ((rU_fr U16 (by decide)).trans (bFr_sub g3 (by decide))))) (by rw [show rN hp1 66 7 = rN hp16 66 7 from r_fr g3 rfl]; exact t16) (Or.inr ⟨g2, rfS_W S16 g3 (fun _ => rfl) rfl rfl (fun _ => rfl) (fun _ => rfl), g4⟩)) (trL T 225).length 0 _ hp16 (by omega) (by omega) hH16 P16 (bFr.refl _ _) (by rw [U16.1, h15]; rfl)
  · refine xcst 9 (0) ⟨u337, _, rfl⟩ rfl (by decide) (fun z8 h8 => ?_)
    exact xret ⟨u337, _, rfl⟩ rfl (hR _ hp2 hH2 P2 (bFr_sub F2 (by decide)) t2 (Or.inl ⟨by omega, S2⟩))
theorem h383E {d : Nat} {hp : amH} {R : cQ} {x1 : Int32} {V n : Nat} {h : Nat → sR} {sv : Option sR} {T : sT} {ty : Nat → Int} (hI : lawI hp) (c : clS hp (V, T, ty) n h sv) (r : rfS hp (V, T, ty) n h sv)
    (hR : ∀ (z : Int32) hp1 mc ms, lawI hp1 → rfS hp1 (V, T, ty) n h sv → z.toInt = gPt V x1.toInt → ((¬ gPt V x1.toInt = 0 ∧ clS hp1 (V, T, ty) n h sv) ∨ (gPt V x1.toInt = 0 ∧ clS hp1 (V, T, ty) n h sv ∧ rJ hp1 83 0 = ((4 * dB T x1.toInt.toNat (trL T 225).length - 1 : Nat) : Int))) → mc ≤ 1 → ms ≤ 6 → R (.inl (some (.int z))) hp1 mc ms) : cK (d + 20) 383 [.ref 0, .int x1, .ref 83] hp R := by
  refine cin (M := am_m383) rfl rfl rfl ?_
  refine cald 1 ⟨u383J, _, rfl⟩ rfl rfl ?_
  refine ccst 2 (0) ⟨u383J, _, rfl⟩ rfl (by decide) (fun z1 h1 => ?_)
  refine cald 3 ⟨u383J, _, rfl⟩ rfl rfl ?_
  refine cild 4 ⟨u383J, _, rfl⟩ rfl rfl ?_
  refine ccall (kd := 0) (t := 1) [.ref 0, .int _] [.int _, .ref 83] hI.1 ⟨u383J, _, rfl⟩ (Or.inl ⟨_, rfl, rfl, by decide, by decide⟩) rfl rfl rfl ⟨rfl, rfl, rfl⟩ rfl (recv0 hI.1 _) rfl (qKE (Φ := fun z hp1 => bHk 84 bTT hp1 ∧ cF hp hp1 ∧ gPt V x1.toInt = 0 ∧ clS hp1 (V, T, ty) n h sv ∧ z.toInt = ((4 * dB T x1.toInt.toNat (trL T 225).length - 1 : Nat) : Int)) (Ψ := fun E hp1 => lawI hp1 ∧ rfS hp1 (V, T, ty) n h sv ∧ clS hp1 (V, T, ty) n h sv ∧ ¬ gPt V x1.toInt = 0 ∧ ((gPt V x1.toInt = 1 ∧ E = 1))) (fun R g1 g2 => k_171E (d := d + 14) hI.1 c (fun E hp1 b1 b2 b3 e1 e2 => g2 E hp1 ⟨law_cl hI b1 b2, cF_rf b2 r, b3, e1, e2⟩) (fun z hp1 a1 a2 a3 a4 a5 => g1 z hp1 ⟨a1, a2, a3, a4, a5⟩)) (fun z hp1 φ => Or.inl ⟨_, rfl, ?_⟩) (fun E hp1 ψ => Or.inr ?_))
  · refine ci2lE 8 ⟨u383J, _, rfl⟩ rfl (fun w hw => ?_)
    refine clastE 9 φ.1 ⟨u383J, _, rfl⟩ rfl h1 (fun hp2 hH2 F2 J2 => ?_)
    refine cgoto ⟨u383J, _, rfl⟩ ?_
    refine ccst 16 (0) ⟨u383J, _, rfl⟩ rfl (by decide) (fun z9 h9 => ?_)
    exact cret ⟨u383J, _, rfl⟩ (Or.inl rfl) (hR _ _ _ _ (lawI_83 (law_cl hI φ.1 φ.2.1) hH2 F2) (rf_83 F2 (cF_rf φ.2.1 r)) (by rw [φ.2.2.1]; exact h9) (Or.inr ⟨φ.2.2.1, cl_83 F2 φ.2.2.2.1, by rw [J2, hw]; exact φ.2.2.2.2⟩) (by decide) (by decide))
  · obtain ⟨ψ0, ψr, ψc, ψ1, ψ2⟩ := ψ
    obtain ⟨ce, rfl⟩ := ψ2
    refine ⟨1, 12, 3, 13, rfl, rfl, rfl, rfl, ?_⟩
    refine ccst 14 (1) ⟨u383J, _, rfl⟩ rfl (by decide) (fun z9 h9 => ?_)
    exact cret ⟨u383J, _, rfl⟩ (Or.inl rfl) (hR _ _ _ _ ψ0 ψr (by rw [ce]; exact h9) (Or.inl ⟨ψ1, ψc⟩) (by decide) (by decide))
end
