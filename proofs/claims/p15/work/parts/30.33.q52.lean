/-! ===== subsystems on both sides ===== -/
/-- no triple of the first t has two points of a set and not the third -/
def clB (T : sT) (m t : Nat) : Prop := ∀ s, s < t → ¬ bcN (mN T s &&& m) = 2
theorem clB_s {T : sT} {m t : Nat} (h : clB T m t) (h2 : ¬ bcN (mN T t &&& m) = 2) : clB T m (t + 1) := fun s hs => by
  by_cases e : s = t
  · rw [e]; exact h2
  · exact h s (by omega)
noncomputable def sbP (V : Nat) (T : sT) (m : Nat) : Nat := by
  classical
  exact if 3 < bcN m ∧ clB T m (trL T 225).length then 1 else 0
/-- how many of the first sets are subsystems -/
noncomputable def sbC (V : Nat) (T : sT) (n : Nat) : Nat := sm (sbP V T) n
theorem sbP_1 {V : Nat} {T : sT} {m : Nat} (h : 3 < bcN m ∧ clB T m (trL T 225).length) : sbP V T m = 1 := by
  classical
  unfold sbP
  exact if_pos h
theorem sbP_0 {V : Nat} {T : sT} {m : Nat} (h : ¬ (3 < bcN m ∧ clB T m (trL T 225).length)) : sbP V T m = 0 := by
  classical
  unfold sbP
  exact if_neg h
theorem sbP_le {V : Nat} {T : sT} {m : Nat} : sbP V T m ≤ 1 := by
  classical
  unfold sbP
  split <;> omega
theorem sbC_s {V : Nat} {T : sT} {n : Nat} : sbC V T (n + 1) = sbC V T n + sbP V T n := rfl
theorem sbC_le {V : Nat} {T : sT} : ∀ n, sbC V T n ≤ n
  | 0 => Nat.le_refl _
  | n + 1 => by
    have h1 := sbC_le (V := V) (T := T) n
    have h2 := sbP_le (V := V) (T := T) (m := n)
    rw [sbC_s]
    omega
theorem u32 : bUp 0 am_m32.1 = true := by decide +kernel
theorem u328 : bUp 0 am_m328.1 = true := by decide +kernel
theorem l32E {d m V : Nat} {T : sT} {hp : amH} {R : xQ} {s : Int32} (hH : bHk 84 bTT hp) (hL : lsN hp 3 T 225) (hT : sOk V T) (hs : s.toInt = (m : Int)) (hm : m < 32768)
    (hR : ∀ z : Int32, ((z.toInt = 1 ∧ clB T m (trL T 225).length) ∨ (z.toInt = 0 ∧ ¬ clB T m (trL T 225).length)) → R (.inl (some (.int z))) hp) :
    ∀ (jj t : Nat) (wt : Int32), wt.toInt = (t : Int) → t + jj = (trL T 225).length → clB T m t → xV (d + 1) am_m32 2 [some (.ref 3), some (.int s), some (.int wt)] [] hp R := by
  have l35 := trL_35 hT 225
  have L1 := hL.1
  intro jj
  induction jj with
  | zero =>
    intro t wt hwt hj hc
    have et : (trL T 225).length = t := by omega
    refine xild 3 ⟨u32, _, rfl⟩ rfl rfl ?_
    refine xald 4 ⟨u32, _, rfl⟩ rfl rfl ?_
    refine xgetC 7 hH ⟨u32, _, rfl⟩ rfl (by decide) (by decide) rfl rfl (by decide) (fun z4 h4 => ?_)
    refine xcmp_ge 10 ⟨u32, _, rfl⟩ rfl (fun c7 => ?_) (fun c7 => ?_)
    · refine xcst 33 (1) ⟨u32, _, rfl⟩ rfl (by decide) (fun z32 h32 => ?_)
      exact xretB ⟨u32, _, rfl⟩ rfl (by omega) (hR _ (Or.inl ⟨by omega, by rw [et]; exact hc⟩))
    · omega
  | succ jj ih =>
    intro t wt hwt hj hc
    have ml := (mN_lt hT (show t < (trL T 225).length by omega)).1
    refine xild 3 ⟨u32, _, rfl⟩ rfl rfl ?_
    refine xald 4 ⟨u32, _, rfl⟩ rfl rfl ?_
    refine xgetC 7 hH ⟨u32, _, rfl⟩ rfl (by decide) (by decide) rfl rfl (by decide) (fun z4 h4 => ?_)
    refine xcmp_ge 10 ⟨u32, _, rfl⟩ rfl (fun c7 => ?_) (fun c7 => ?_)
    · omega
    · refine xald 11 ⟨u32, _, rfl⟩ rfl rfl ?_
      refine xild 12 ⟨u32, _, rfl⟩ rfl rfl ?_
      refine xcallC 15 (o := 3) [.int _] [] hH ⟨u32, _, rfl⟩ rfl rfl (by decide) rfl (by decide) rfl ⟨rfl, rfl, rfl, rfl⟩ rfl (k_setL hH hL (t := t) hwt (by omega) (fun z12 h12 => ⟨_, rfl, ?_⟩))
      refine xild 16 ⟨u32, _, rfl⟩ rfl rfl ?_
      refine xand 17 ⟨u32, _, rfl⟩ rfl ?_
      refine xcallS 20 [.int _] [] hH ⟨u32, _, rfl⟩ rfl rfl rfl rfl rfl (k_bc (i_and h12 hs ml).1 (fun z17 h17 => ⟨_, rfl, ?_⟩))
      refine xcst 21 (2) ⟨u32, _, rfl⟩ rfl (by decide) (fun z20 h20 => ?_)
      refine xcmp_ne 24 ⟨u32, _, rfl⟩ rfl (fun c21 => ?_) (fun c21 => ?_)
      · refine xinc 29 (1) ⟨u32, _, rfl⟩ rfl rfl rfl (by decide) (by omega) (by omega) (fun z26 h26 => ?_)
        refine xgoto ⟨u32, _, rfl⟩ ?_
        exact ih (t + 1) _ (by omega) (by omega) (clB_s hc (by omega))
      · refine xcst 25 (0) ⟨u32, _, rfl⟩ rfl (by decide) (fun z24 h24 => ?_)
        exact xretB ⟨u32, _, rfl⟩ rfl (by omega) (hR _ (Or.inr ⟨by omega, fun z => z t (by omega) (by omega)⟩))
theorem k_32E {d m V : Nat} {T : sT} {hp : amH} {R : xQ} {s : Int32} (hH : bHk 84 bTT hp) (hL : lsN hp 3 T 225) (hT : sOk V T) (hs : s.toInt = (m : Int)) (hm : m < 32768)
    (hR : ∀ z : Int32, ((z.toInt = 1 ∧ clB T m (trL T 225).length) ∨ (z.toInt = 0 ∧ ¬ clB T m (trL T 225).length)) → R (.inl (some (.int z))) hp) : xK (d + 1) 32 [.ref 3, .int s] hp R := by
  refine xin (M := am_m32) rfl rfl rfl ?_
  refine xcst 1 (0) ⟨u32, _, rfl⟩ rfl (by decide) (fun z0 h0 => ?_)
  refine xist 2 ⟨u32, _, rfl⟩ rfl rfl ?_
  exact l32E hH hL hT hs hm hR (trL T 225).length 0 _ h0 (by omega) (fun s hs => absurd hs (Nat.not_lt_zero s))
theorem l328E {d m V : Nat} {T : sT} {hp : amH} {R : xQ} {s : Int32} (hH : bHk 84 bTT hp) (hL : rlN hp T 225) (hT : sOk V T) (hs : s.toInt = (m : Int)) (hm : m < 32768)
    (hR : ∀ z : Int32, ((z.toInt = 1 ∧ clB T m (trL T 225).length) ∨ (z.toInt = 0 ∧ ¬ clB T m (trL T 225).length)) → R (.inl (some (.int z))) hp) :
    ∀ (jj t : Nat) (wt : Int32), wt.toInt = (t : Int) → t + jj = (trL T 225).length → clB T m t → xV (d + 1) am_m328 2 [some (.ref 66), some (.int s), some (.int wt)] [] hp R := by
  have l35 := trL_35 hT 225
  have L1 := hL.1
  intro jj
  induction jj with
  | zero =>
    intro t wt hwt hj hc
    have et : (trL T 225).length = t := by omega
    refine xild 3 ⟨u328, _, rfl⟩ rfl rfl ?_
    refine xald 4 ⟨u328, _, rfl⟩ rfl rfl ?_
    refine xgetI 7 hH ⟨u328, _, rfl⟩ rfl rfl (fun z4 h4 => ?_)
    refine xcmp_ge 10 ⟨u328, _, rfl⟩ rfl (fun c7 => ?_) (fun c7 => ?_)
    · refine xcst 34 (1) ⟨u328, _, rfl⟩ rfl (by decide) (fun z33 h33 => ?_)
      exact xretB ⟨u328, _, rfl⟩ rfl (by omega) (hR _ (Or.inl ⟨by omega, by rw [et]; exact hc⟩))
    · omega
  | succ jj ih =>
    intro t wt hwt hj hc
    have ml := (mN_lt hT (show t < (trL T 225).length by omega)).1
    have Lt := (hL.2 t (by omega)).2.2.2
    refine xild 3 ⟨u328, _, rfl⟩ rfl rfl ?_
    refine xald 4 ⟨u328, _, rfl⟩ rfl rfl ?_
    refine xgetI 7 hH ⟨u328, _, rfl⟩ rfl rfl (fun z4 h4 => ?_)
    refine xcmp_ge 10 ⟨u328, _, rfl⟩ rfl (fun c7 => ?_) (fun c7 => ?_)
    · omega
    · refine xald 11 ⟨u328, _, rfl⟩ rfl rfl ?_
      refine xgetR 14 75 hH ⟨u328, _, rfl⟩ rfl rfl ?_
      refine xild 15 ⟨u328, _, rfl⟩ rfl rfl ?_
      refine xiald 16 (wt).toInt.toNat hH ⟨u328, _, rfl⟩ rfl (by decide) rfl (by omega) (by omega) (fun z15 h15 => ?_)
      refine xild 17 ⟨u328, _, rfl⟩ rfl rfl ?_
      refine xand 18 ⟨u328, _, rfl⟩ rfl ?_
      have e15 : z15.toInt = ((mN T t : Nat) : Int) := by rw [h15, show wt.toInt.toNat = t by omega]; exact Lt
      refine xcallS 21 [.int _] [] hH ⟨u328, _, rfl⟩ rfl rfl rfl rfl rfl (k_bc (i_and e15 hs ml).1 (fun z18 h18 => ⟨_, rfl, ?_⟩))
      refine xcst 22 (2) ⟨u328, _, rfl⟩ rfl (by decide) (fun z21 h21 => ?_)
      refine xcmp_ne 25 ⟨u328, _, rfl⟩ rfl (fun c22 => ?_) (fun c22 => ?_)
      · refine xinc 30 (1) ⟨u328, _, rfl⟩ rfl rfl rfl (by decide) (by omega) (by omega) (fun z27 h27 => ?_)
        refine xgoto ⟨u328, _, rfl⟩ ?_
        exact ih (t + 1) _ (by omega) (by omega) (clB_s hc (by omega))
      · refine xcst 26 (0) ⟨u328, _, rfl⟩ rfl (by decide) (fun z25 h25 => ?_)
        exact xretB ⟨u328, _, rfl⟩ rfl (by omega) (hR _ (Or.inr ⟨by omega, fun z => z t (by omega) (by omega)⟩))
theorem k_328E {d m V : Nat} {T : sT} {hp : amH} {R : xQ} {s : Int32} (hH : bHk 84 bTT hp) (hL : rlN hp T 225) (hT : sOk V T) (hs : s.toInt = (m : Int)) (hm : m < 32768)
    (hR : ∀ z : Int32, ((z.toInt = 1 ∧ clB T m (trL T 225).length) ∨ (z.toInt = 0 ∧ ¬ clB T m (trL T 225).length)) → R (.inl (some (.int z))) hp) : xK (d + 1) 328 [.ref 66, .int s] hp R := by
  refine xin (M := am_m328) rfl rfl rfl ?_
  refine xcst 1 (0) ⟨u328, _, rfl⟩ rfl (by decide) (fun z0 h0 => ?_)
  refine xist 2 ⟨u328, _, rfl⟩ rfl rfl ?_
  exact l328E hH hL hT hs hm hR (trL T 225).length 0 _ h0 (by omega) (fun s hs => absurd hs (Nat.not_lt_zero s))
theorem u163 : bUp 0 am_m163.1 = true := by decide +kernel
theorem l163E {d V : Nat} {T : sT} {hp : amH} {R : xQ} {wa : Int32} (hH : bHk 84 bTT hp) (hL : lsN hp 3 T 225) (hT : sOk V T) (hwa : wa.toInt = ((2 ^ V - 1 : Nat) : Int)) (h2V : 2 ^ V ≤ 32768)
    (hR : ∀ z : Int32, z.toInt = ((sbC V T (2 ^ V - 1) : Nat) : Int) → R (.inl (some (.int z))) hp) :
    ∀ (jj t : Nat) (w wt : Int32), wt.toInt = (t : Int) → t + jj = 2 ^ V - 1 → w.toInt = ((sbC V T t : Nat) : Int) → xV (d + 4) am_m163 12 [some (.ref 0), some (.int wa), some (.int w), some (.int wt)] [] hp R := by
  intro jj
  induction jj with
  | zero =>
    intro t w wt hwt hj hw
    have et : t = 2 ^ V - 1 := by omega
    rw [et] at hw
    refine xild 13 ⟨u163, _, rfl⟩ rfl rfl ?_
    refine xild 14 ⟨u163, _, rfl⟩ rfl rfl ?_
    refine xcmp_ge 17 ⟨u163, _, rfl⟩ rfl (fun c14 => ?_) (fun c14 => ?_)
    · refine xild 46 ⟨u163, _, rfl⟩ rfl rfl ?_
      exact xret ⟨u163, _, rfl⟩ rfl (hR _ hw)
    · omega
  | succ jj ih =>
    intro t w wt hwt hj hw
    have k2 := sbC_le (V := V) (T := T) t
    have k3 := sbC_s (V := V) (T := T) (n := t)
    refine xild 13 ⟨u163, _, rfl⟩ rfl rfl ?_
    refine xild 14 ⟨u163, _, rfl⟩ rfl rfl ?_
    refine xcmp_ge 17 ⟨u163, _, rfl⟩ rfl (fun c14 => ?_) (fun c14 => ?_)
    · omega
    · refine xild 18 ⟨u163, _, rfl⟩ rfl rfl ?_
      refine xcallS 21 [.int _] [] hH ⟨u163, _, rfl⟩ rfl rfl rfl rfl rfl (k_bc hwt (fun z18 h18 => ⟨_, rfl, ?_⟩))
      refine xcst 22 (3) ⟨u163, _, rfl⟩ rfl (by decide) (fun z21 h21 => ?_)
      refine xcmp_le 25 ⟨u163, _, rfl⟩ rfl (fun c22 => ?_) (fun c22 => ?_)
      · refine xinc 42 (1) ⟨u163, _, rfl⟩ rfl rfl rfl (by decide) (by omega) (by omega) (fun z39 h39 => ?_)
        refine xgoto ⟨u163, _, rfl⟩ ?_
        rw [sbP_0 (fun z => by have := z.1; omega)] at k3
        exact ih (t + 1) _ _ (by omega) (by omega) (by omega)
      · refine xald 26 ⟨u163, _, rfl⟩ rfl rfl ?_
        refine xgetD 29 (3) hH ⟨u163, _, rfl⟩ rfl (by decide) (by decide) rfl rfl (by decide) ?_
        refine xild 30 ⟨u163, _, rfl⟩ rfl rfl ?_
        refine xcallC 33 (o := 3) [.int _] [] hH ⟨u163, _, rfl⟩ rfl rfl (by decide) rfl (by decide) rfl ⟨rfl, rfl, rfl, rfl⟩ rfl (k_32E hH hL hT hwt (by omega) (fun z30 h30 => ⟨_, rfl, ?_⟩))
        refine xif_eq 36 ⟨u163, _, rfl⟩ rfl (fun c33 => ?_) (fun c33 => ?_)
        · refine xinc 42 (1) ⟨u163, _, rfl⟩ rfl rfl rfl (by decide) (by omega) (by omega) (fun z39 h39 => ?_)
          refine xgoto ⟨u163, _, rfl⟩ ?_
          have c9 : ¬ clB T t (trL T 225).length := by
            rcases h30 with ⟨q, -⟩ | ⟨-, q⟩
            · omega
            · exact q
          rw [sbP_0 (fun z => c9 z.2)] at k3
          exact ih (t + 1) _ _ (by omega) (by omega) (by omega)
        · refine xinc 39 (1) ⟨u163, _, rfl⟩ rfl rfl rfl (by decide) (by omega) (by omega) (fun z36 h36 => ?_)
          refine xinc 42 (1) ⟨u163, _, rfl⟩ rfl rfl rfl (by decide) (by omega) (by omega) (fun z39 h39 => ?_)
          refine xgoto ⟨u163, _, rfl⟩ ?_
          have c9 : clB T t (trL T 225).length := by
            rcases h30 with ⟨-, q⟩ | ⟨q, -⟩
            · exact q
            · omega
          rw [sbP_1 ⟨by omega, c9⟩] at k3
          exact ih (t + 1) _ _ (by omega) (by omega) (by omega)
theorem k_163E {d V n : Nat} {h : Nat → sR} {sv : Option sR} {T : sT} {ty : Nat → Int} {hp : amH} {R : xQ} (hH : bHk 84 bTT hp) (hS : clS hp (V, T, ty) n h sv)
    (hR : ∀ (z : Int32) hp1, bHk 84 bTT hp1 → cF hp hp1 → clS hp1 (V, T, ty) n h sv → z.toInt = ((sbC V T (2 ^ V - 1) : Nat) : Int) → R (.inl (some (.int z))) hp1) : xK (d + 5) 163 [.ref 0] hp R := by
  have hB : bdOk hp 3 V T := hS.1
  have b0 : rN hp 3 0 = (V : Int) := hB.1
  have hL : lsN hp 3 T 225 := hS.2.1
  have b1 : rN hp 3 1 = (((trL T 225).length : Nat) : Int) := hL.1
  have hT0 : sOk V T := hB.2.1
  have h15 : V ≤ 15 := hT0.2.1
  have l35 : (trL T 225).length ≤ 35 := trL_35 hT0 225
  have h2V : 2 ^ V ≤ 32768 := Nat.pow_le_pow_right (by decide) h15
  refine xin (M := am_m163) rfl rfl rfl ?_
  refine xald 1 ⟨u163, _, rfl⟩ rfl rfl ?_
  refine xgetD 4 (3) hH ⟨u163, _, rfl⟩ rfl (by decide) (by decide) rfl rfl (by decide) ?_
  refine xcallC 7 (o := 3) [] [] hH ⟨u163, _, rfl⟩ rfl rfl (by decide) rfl (by decide) rfl ⟨rfl, rfl, rfl, rfl⟩ rfl (k_all (o := 3) (Or.inl rfl) hH b0 (fun z4 h4 => ⟨_, rfl, ?_⟩))
  refine xist 8 ⟨u163, _, rfl⟩ rfl rfl ?_
  refine xcst 9 (0) ⟨u163, _, rfl⟩ rfl (by decide) (fun z8 h8 => ?_)
  refine xist 10 ⟨u163, _, rfl⟩ rfl rfl ?_
  refine xcst 11 (0) ⟨u163, _, rfl⟩ rfl (by decide) (fun z10 h10 => ?_)
  refine xist 12 ⟨u163, _, rfl⟩ rfl rfl ?_
  exact l163E hH hL hT0 h4 h2V (fun z e => hR z hp hH cF.refl hS e) (2 ^ V - 1) 0 _ _ h10 (by omega) h8
theorem u329 : bUp 0 am_m329.1 = true := by decide +kernel
theorem l329E {d V : Nat} {T : sT} {hp : amH} {R : xQ} (hH : bHk 84 bTT hp) (hB : rdOk hp V T) (hL : rlN hp T 225) (h2V : 2 ^ V ≤ 32768)
    (hR : ∀ z : Int32, z.toInt = ((sbC V T (2 ^ V - 1) : Nat) : Int) → R (.inl (some (.int z))) hp) :
    ∀ (jj t : Nat) (w wt : Int32), wt.toInt = (t : Int) → t + jj = 2 ^ V - 1 → w.toInt = ((sbC V T t : Nat) : Int) → xV (d + 3) am_m329 13 [some (.ref 66), some (.int w), some (.int wt)] [] hp R := by
  have hT := hB.2.1
  have h15 := hT.2.1
  have b0 : rN hp 67 0 = (V : Int) := hB.1
  have p2 := Nat.two_pow_pos V
  intro jj
  induction jj with
  | zero =>
    intro t w wt hwt hj hw
    have et : t = 2 ^ V - 1 := by omega
    rw [et] at hw
    refine xild 14 ⟨u329, _, rfl⟩ rfl rfl ?_
    refine xcst 15 (1) ⟨u329, _, rfl⟩ rfl (by decide) (fun z14 h14 => ?_)
    refine xald 16 ⟨u329, _, rfl⟩ rfl rfl ?_
    refine xcall 19 [.ref 66] [.int _, .int _] hH ⟨u329, _, rfl⟩ rfl rfl rfl rfl rfl (k_points hH (fun z16 h16 => ⟨_, rfl, ?_⟩))
    refine xshl 20 ⟨u329, _, rfl⟩ rfl ?_
    have sV := i_shlV h14 (h16.trans b0) h15
    refine xcst 21 (1) ⟨u329, _, rfl⟩ rfl (by decide) (fun z20 h20 => ?_)
    refine xsub 22 _ ⟨u329, _, rfl⟩ rfl rfl (by omega) (by omega) (fun z21 h21 => ?_)
    refine xcmp_ge 25 ⟨u329, _, rfl⟩ rfl (fun c22 => ?_) (fun c22 => ?_)
    · refine xild 56 ⟨u329, _, rfl⟩ rfl rfl ?_
      exact xret ⟨u329, _, rfl⟩ rfl (hR _ hw)
    · omega
  | succ jj ih =>
    intro t w wt hwt hj hw
    have k2 := sbC_le (V := V) (T := T) t
    have k3 := sbC_s (V := V) (T := T) (n := t)
    refine xild 14 ⟨u329, _, rfl⟩ rfl rfl ?_
    refine xcst 15 (1) ⟨u329, _, rfl⟩ rfl (by decide) (fun z14 h14 => ?_)
    refine xald 16 ⟨u329, _, rfl⟩ rfl rfl ?_
    refine xcall 19 [.ref 66] [.int _, .int _] hH ⟨u329, _, rfl⟩ rfl rfl rfl rfl rfl (k_points hH (fun z16 h16 => ⟨_, rfl, ?_⟩))
    refine xshl 20 ⟨u329, _, rfl⟩ rfl ?_
    have sV := i_shlV h14 (h16.trans b0) h15
    refine xcst 21 (1) ⟨u329, _, rfl⟩ rfl (by decide) (fun z20 h20 => ?_)
    refine xsub 22 _ ⟨u329, _, rfl⟩ rfl rfl (by omega) (by omega) (fun z21 h21 => ?_)
    refine xcmp_ge 25 ⟨u329, _, rfl⟩ rfl (fun c22 => ?_) (fun c22 => ?_)
    · omega
    · refine xild 26 ⟨u329, _, rfl⟩ rfl rfl ?_
      refine xild 27 ⟨u329, _, rfl⟩ rfl rfl ?_
      refine xcallS 30 [.int _] [.int _] hH ⟨u329, _, rfl⟩ rfl rfl rfl rfl rfl (k_bc hwt (fun z27 h27 => ⟨_, rfl, ?_⟩))
      refine xcst 31 (3) ⟨u329, _, rfl⟩ rfl (by decide) (fun z30 h30 => ?_)
      refine xcmp_le 34 ⟨u329, _, rfl⟩ rfl (fun c31 => ?_) (fun c31 => ?_)
      · refine xcst 47 (0) ⟨u329, _, rfl⟩ rfl (by decide) (fun z46 h46 => ?_)
        refine xadd 48 _ ⟨u329, _, rfl⟩ rfl rfl (by omega) (by omega) (fun z47 h47 => ?_)
        refine xist 49 ⟨u329, _, rfl⟩ rfl rfl ?_
        refine xinc 52 (1) ⟨u329, _, rfl⟩ rfl rfl rfl (by decide) (by omega) (by omega) (fun z49 h49 => ?_)
        refine xgoto ⟨u329, _, rfl⟩ ?_
        rw [sbP_0 (fun z => by have := z.1; omega)] at k3
        exact ih (t + 1) _ _ (by omega) (by omega) (by omega)
      · refine xald 35 ⟨u329, _, rfl⟩ rfl rfl ?_
        refine xild 36 ⟨u329, _, rfl⟩ rfl rfl ?_
        refine xcall 39 [.ref 66, .int _] [.int _] hH ⟨u329, _, rfl⟩ rfl rfl rfl rfl rfl (k_328E hH hL hT hwt (by omega) (fun z36 h36 => ⟨_, rfl, ?_⟩))
        refine xif_eq 42 ⟨u329, _, rfl⟩ rfl (fun c39 => ?_) (fun c39 => ?_)
        · refine xcst 47 (0) ⟨u329, _, rfl⟩ rfl (by decide) (fun z46 h46 => ?_)
          refine xadd 48 _ ⟨u329, _, rfl⟩ rfl rfl (by omega) (by omega) (fun z47 h47 => ?_)
          refine xist 49 ⟨u329, _, rfl⟩ rfl rfl ?_
          refine xinc 52 (1) ⟨u329, _, rfl⟩ rfl rfl rfl (by decide) (by omega) (by omega) (fun z49 h49 => ?_)
          refine xgoto ⟨u329, _, rfl⟩ ?_
          have c9 : ¬ clB T t (trL T 225).length := by
            rcases h36 with ⟨q, -⟩ | ⟨-, q⟩
            · omega
            · exact q
          rw [sbP_0 (fun z => c9 z.2)] at k3
          exact ih (t + 1) _ _ (by omega) (by omega) (by omega)
        · refine xcst 43 (1) ⟨u329, _, rfl⟩ rfl (by decide) (fun z42 h42 => ?_)
          refine xgoto ⟨u329, _, rfl⟩ ?_
          refine xadd 48 _ ⟨u329, _, rfl⟩ rfl rfl (by omega) (by omega) (fun z47 h47 => ?_)
          refine xist 49 ⟨u329, _, rfl⟩ rfl rfl ?_
          refine xinc 52 (1) ⟨u329, _, rfl⟩ rfl rfl rfl (by decide) (by omega) (by omega) (fun z49 h49 => ?_)
          refine xgoto ⟨u329, _, rfl⟩ ?_
          have c9 : clB T t (trL T 225).length := by
            rcases h36 with ⟨-, q⟩ | ⟨q, -⟩
            · exact q
            · omega
          rw [sbP_1 ⟨by omega, c9⟩] at k3
          exact ih (t + 1) _ _ (by omega) (by omega) (by omega)
theorem k_329E {d V n : Nat} {h : Nat → sR} {sv : Option sR} {T : sT} {ty : Nat → Int} {hp : amH} {R : xQ} (hH : bHk 84 bTT hp) (hP : P0 hp) (hS : rfS hp (V, T, ty) n h sv)
    (hR : ∀ (z : Int32) hp1, bHk 84 bTT hp1 → P0 hp1 → bFr wM hp hp1 → rfS hp1 (V, T, ty) n h sv → z.toInt = ((sbC V T (2 ^ V - 1) : Nat) : Int) → R (.inl (some (.int z))) hp1) : xK (d + 4) 329 [.ref 66] hp R := by
  have hB : rdOk hp V T := rowOk_rd hS.1
  have b0 : rN hp 67 0 = (V : Int) := hB.1
  have hT0 : sOk V T := hB.2.1
  have h15 : V ≤ 15 := hT0.2.1
  have l35 : (trL T 225).length ≤ 35 := trL_35 hT0 225
  have h2V : 2 ^ V ≤ 32768 := Nat.pow_le_pow_right (by decide) h15
  refine xin (M := am_m329) rfl rfl rfl ?_
  refine xald 1 ⟨u329, _, rfl⟩ rfl rfl ?_
  refine xcst 2 (0) ⟨u329, _, rfl⟩ rfl (by decide) (fun z1 h1 => ?_)
  refine xputI 5 hH ⟨u329, _, rfl⟩ rfl rfl ⟨rfl, rfl⟩ (by omega) (by omega) (fun hp2 hH2 U2 => ?_)
  have s2 := U2.1
  have S2 := rfS_W (W := [(66, 7)]) hS (rU_fr U2 rfl) (fun _ => rfl) rfl rfl (fun _ => rfl) (fun _ => rfl)
  have P2 := P0_W (W := [(66, 7)]) (by decide) (rU_fr U2 rfl) hP
  refine xald 6 ⟨u329, _, rfl⟩ rfl rfl ?_
  refine xcall 9 [.ref 66] [] hH2 ⟨u329, _, rfl⟩ rfl rfl rfl rfl rfl (k_rlst hH2 (V := V) (T := T) (rowOk_rd S2.1) (fun hp6 hH6 F6 B6 L6 => ⟨_, rfl, ?_⟩))
  have S6 := rfS_W S2 F6 (fun _ => rfl) rfl rfl (fun _ => rfl) (fun _ => rfl)
  have P6 : P0 hp6 := P0_W (W := bLT) (by decide) F6 P2
  refine xcst 10 (0) ⟨u329, _, rfl⟩ rfl (by decide) (fun z9 h9 => ?_)
  refine xist 11 ⟨u329, _, rfl⟩ rfl rfl ?_
  refine xcst 12 (0) ⟨u329, _, rfl⟩ rfl (by decide) (fun z11 h11 => ?_)
  refine xist 13 ⟨u329, _, rfl⟩ rfl rfl ?_
  exact l329E hH6 B6 L6 h2V (fun z e => hR z hp6 hH6 P6 ((rU_fr U2 (by decide)).trans (bFr_sub F6 (by decide))) S6 e) (2 ^ V - 1) 0 _ _ h11 (by omega) h9
