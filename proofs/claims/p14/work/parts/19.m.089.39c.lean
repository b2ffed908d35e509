/-! ===== the reference counts quadrilaterals by three of their triples ===== -/
noncomputable def q3B (T : sT) (n : Nat) : Bool := decide (n / 1225 < n / 35 % 35 ∧ n / 35 % 35 < n % 35 ∧ n % 35 < (trL T 225).length ∧ ¬ mN T (n / 1225) &&& mN T (n / 35 % 35) = 0 ∧ ¬ nmT T (qR T n) = -1)
theorem q3_no {T : sT} {n : Nat} (h : n / 35 / 35 = n / 1225 → ¬ (n / 1225 < n / 35 % 35 ∧ n / 35 % 35 < n % 35 ∧ n % 35 < (trL T 225).length)) : ¬ q3B T n = true := fun z => by
  have z := of_decide_eq_true z
  exact h (by rw [Nat.div_div_eq_div_mul]) ⟨z.1, z.2.1, z.2.2.1⟩
theorem fL_n {B : Nat → Bool} : ∀ n, (fL B n).length ≤ n
  | 0 => Nat.le_refl _
  | n + 1 => by
    have := fL_n (B := B) n
    by_cases h : B n = true
    · rw [fL_add h, List.length_append, List.length_singleton]; omega
    · rw [fL_skip h]; omega
theorem q3_4 {V : Nat} {T : sT} (hT : sOk V T) : (fL (q3B T) 42875).length = 4 * nQ T := by
  have l35 := trL_35 hT 225
  have a := sym_c (n := 35) (X4_sym T)
  have b : nQ T = _ := qd_len hT
  rw [b, ← a, fL_sm, show 42875 = 35 * 1225 by rfl, sm_prod]
  unfold s4 s3
  refine sm_ext 35 (fun i hi => ?_)
  rw [show 1225 = 35 * 35 by rfl, sm_prod]
  refine sm_ext 35 (fun j hj => sm_ext 35 (fun k hk => ?_))
  rw [show 35 * 35 = 1225 by rfl]
  have e1 : (i * 1225 + (j * 35 + k)) / 1225 = i := by omega
  have e2 : (i * 1225 + (j * 35 + k)) / 35 % 35 = j := by omega
  have e3 : (i * 1225 + (j * 35 + k)) % 35 = k := by omega
  have hq : q3B T (i * 1225 + (j * 35 + k)) = true ↔ (i < j ∧ j < k ∧ k < (trL T 225).length ∧ ¬ mN T i &&& mN T j = 0 ∧ ¬ nmT T (mN T i ^^^ mN T j ^^^ mN T k) = -1) := by
    unfold q3B
    rw [decide_eq_true_iff]
    unfold qR
    rw [e1, e2, e3]
  by_cases h : q3B T (i * 1225 + (j * 35 + k)) = true
  · rw [iv_t h]
    obtain ⟨h1, h2, h3, h4, h5⟩ := hq.mp h
    rcases nm_lt (T := T) (mN T i ^^^ mN T j ^^^ mN T k) with z | ⟨t, t1, t2⟩
    · exact absurd z h5
    · obtain ⟨b1, b2⟩ := nm_inv t2
      have inj : ∀ s r, s < (trL T 225).length → r < (trL T 225).length → mN T s = mN T r → s = r := fun s r hs hr e => by
        have a := nm_mk hT hs
        have b := nm_mk hT hr
        have e : mk3 T ((trL T 225).getD s 0) = mk3 T ((trL T 225).getD r 0) := e
        rw [e] at a
        omega
      have x0 : ∀ s r, s < (trL T 225).length → r < (trL T 225).length → mN T s ^^^ mN T r = 0 → s = r := fun s r hs hr e => by
        refine inj s r hs hr ?_
        have : mN T s ^^^ mN T r ^^^ mN T r = 0 ^^^ mN T r := by rw [e]
        rw [Nat.xor_assoc, Nat.xor_self, Nat.xor_zero, Nat.zero_xor] at this
        exact this
      have n1 : ¬ t = i := fun e => by
        rw [e] at b2
        have q : mN T i ^^^ mN T i = mN T i ^^^ (mN T i ^^^ mN T j ^^^ mN T k) := by rw [← b2]
        rw [Nat.xor_self, Nat.xor_assoc, ← Nat.xor_assoc (mN T i) (mN T i), Nat.xor_self, Nat.zero_xor] at q
        have := x0 j k (by omega) (by omega) q.symm
        omega
      have n2 : ¬ t = j := fun e => by
        rw [e] at b2
        have q : mN T j ^^^ mN T j = mN T j ^^^ (mN T j ^^^ mN T i ^^^ mN T k) := by rw [Nat.xor_comm (mN T j) (mN T i), ← b2]
        rw [Nat.xor_self, Nat.xor_assoc, ← Nat.xor_assoc (mN T j) (mN T j), Nat.xor_self, Nat.zero_xor] at q
        have := x0 i k (by omega) (by omega) q.symm
        omega
      have n3 : ¬ t = k := fun e => by
        rw [e] at b2
        have q : mN T k ^^^ mN T k = mN T i ^^^ mN T j ^^^ mN T k ^^^ mN T k := by rw [← b2]
        rw [Nat.xor_self, Nat.xor_assoc, Nat.xor_self, Nat.xor_zero] at q
        have := x0 i j (by omega) (by omega) q.symm
        omega
      have hX : X4 T i j k t := ⟨⟨by omega, by omega, by omega, b1⟩, ⟨by omega, by omega, by omega, by omega, by omega, by omega⟩, b2.symm⟩
      refine (sm_one (k := t) (by omega) (iv_t ⟨hX, h1, h2⟩) (fun l _ hl => iv_f (fun z => hl ?_))).symm
      exact inj l t z.1.1.2.2.2 b1 (z.1.2.2.symm.trans b2.symm)
  · rw [iv_f h]
    refine (sm_none (fun l _ => iv_f (fun z => h (hq.mpr ⟨z.2.1, z.2.2, z.1.1.2.2.1, X4_meets hT z.1, ?_⟩)))).symm
    have e := nm_mk hT z.1.1.2.2.2
    have e2 : mk3 T ((trL T 225).getD l 0) = mN T i ^^^ mN T j ^^^ mN T k := z.1.2.2.symm
    rw [e2] at e
    omega
theorem l222k {d i j V : Nat} {T : sT} {hp : amH} {R : xQ} {wi wj : Int32} (hH : bHk 84 bTT hp) (hB : rdOk hp V T) (hL : rlN hp T 225) (hwi : wi.toInt = (i : Int)) (hwj : wj.toInt = (j : Int)) (hij : i < j) (hjl : j < (trL T 225).length) (hmt : ¬ mN T i &&& mN T j = 0)
    (hQ : ∀ (w : Int32) (v4 : Option Value), w.toInt = (((fL (q3B T) (1225 * i + 35 * (j + 1))).length : Nat) : Int) → xV (d + 2) am_m222 103 [some (.ref 66), some (.int w), some (.int wi), some (.int wj), v4] [] hp R) :
    ∀ (jj k : Nat) (w wk : Int32), wk.toInt = (k : Int) → j < k → k + jj = (trL T 225).length → w.toInt = (((fL (q3B T) (1225 * i + 35 * j + k)).length : Nat) : Int) → xV (d + 2) am_m222 52 [some (.ref 66), some (.int w), some (.int wi), some (.int wj), some (.int wk)] [] hp R := by
  have l35 := trL_35 hB.2.1 225
  have L1 := hL.1
  have LM : ∀ t, t < (trL T 225).length → rN hp 75 t = ((mN T t : Nat) : Int) := fun t ht => (hL.2 t ht).2.2.2
  intro jj
  induction jj with
  | zero =>
    intro k w wk hwk hjk hk hw
    have e0 : fL (q3B T) (1225 * i + 35 * (j + 1)) = fL (q3B T) (1225 * i + 35 * j + k) := fL_no (by omega) (fun c c1 c2 => q3_no (by omega))
    refine xild2 54 ⟨u222, _, rfl⟩ rfl rfl ?_
    refine xald 55 ⟨u222, _, rfl⟩ rfl rfl ?_
    refine xgetI 58 hH ⟨u222, _, rfl⟩ rfl rfl (fun z55 h55 => ?_)
    refine xcmp_ge 61 ⟨u222, _, rfl⟩ rfl (fun c58 => ?_) (fun c58 => ?_)
    · exact hQ _ _ (by rw [e0]; exact hw)
    · omega
  | succ jj ih =>
    intro k w wk hwk hjk hk hw
    have mi := mN_lt hB.2.1 (show i < (trL T 225).length by omega)
    have mj := mN_lt hB.2.1 (show j < (trL T 225).length by omega)
    have mk := mN_lt hB.2.1 (show k < (trL T 225).length by omega)
    have hn : qR T (1225 * i + 35 * j + k) = mN T i ^^^ mN T j ^^^ mN T k := by
      unfold qR
      rw [show (1225 * i + 35 * j + k) / 1225 = i by omega, show (1225 * i + 35 * j + k) / 35 % 35 = j by omega, show (1225 * i + 35 * j + k) % 35 = k by omega]
    have hqd : q3B T (1225 * i + 35 * j + k) = true ↔ ¬ nmT T (mN T i ^^^ mN T j ^^^ mN T k) = -1 := by
      unfold q3B
      rw [decide_eq_true_iff, hn, show (1225 * i + 35 * j + k) / 1225 = i by omega, show (1225 * i + 35 * j + k) / 35 % 35 = j by omega, show (1225 * i + 35 * j + k) % 35 = k by omega]
      exact ⟨fun z => z.2.2.2.2, fun z => ⟨hij, hjk, by omega, hmt, z⟩⟩
    have fn := fL_n (B := q3B T) (1225 * i + 35 * j + k)
    refine xild2 54 ⟨u222, _, rfl⟩ rfl rfl ?_
    refine xald 55 ⟨u222, _, rfl⟩ rfl rfl ?_
    refine xgetI 58 hH ⟨u222, _, rfl⟩ rfl rfl (fun z55 h55 => ?_)
    refine xcmp_ge 61 ⟨u222, _, rfl⟩ rfl (fun c58 => ?_) (fun c58 => ?_)
    · omega
    · refine xild 62 ⟨u222, _, rfl⟩ rfl rfl ?_
      refine xald 63 ⟨u222, _, rfl⟩ rfl rfl ?_
      refine xald 64 ⟨u222, _, rfl⟩ rfl rfl ?_
      refine xgetR 67 75 hH ⟨u222, _, rfl⟩ rfl rfl ?_
      refine xild 68 ⟨u222, _, rfl⟩ rfl rfl ?_
      refine xiald 69 (wi).toInt.toNat hH ⟨u222, _, rfl⟩ rfl (by decide) rfl (by omega) (by omega) (fun z68 h68 => ?_)
      refine xald 70 ⟨u222, _, rfl⟩ rfl rfl ?_
      refine xgetR 73 75 hH ⟨u222, _, rfl⟩ rfl rfl ?_
      refine xild 74 ⟨u222, _, rfl⟩ rfl rfl ?_
      refine xiald 75 (wj).toInt.toNat hH ⟨u222, _, rfl⟩ rfl (by decide) rfl (by omega) (by omega) (fun z74 h74 => ?_)
      refine xxor 76 ⟨u222, _, rfl⟩ rfl ?_
      refine xald 77 ⟨u222, _, rfl⟩ rfl rfl ?_
      refine xgetR 80 75 hH ⟨u222, _, rfl⟩ rfl rfl ?_
      refine xild2 82 ⟨u222, _, rfl⟩ rfl rfl ?_
      refine xiald 83 (wk).toInt.toNat hH ⟨u222, _, rfl⟩ rfl (by decide) rfl (by omega) (by omega) (fun z82 h82 => ?_)
      refine xxor 84 ⟨u222, _, rfl⟩ rfl ?_
      have a1 : z68.toInt = ((mN T i : Nat) : Int) := by rw [h68, show wi.toInt.toNat = i by omega]; exact LM i (by omega)
      have a2 : z74.toInt = ((mN T j : Nat) : Int) := by rw [h74, show wj.toInt.toNat = j by omega]; exact LM j (by omega)
      have a3 : z82.toInt = ((mN T k : Nat) : Int) := by rw [h82, show wk.toInt.toNat = k by omega]; exact LM k (by omega)
      have w1 := i_xor a1 a2 mi.1 mj.1
      have w2 := i_xor w1.1 a3 w1.2 mk.1
      refine xcall 87 [.ref 66, .int _] [.int _] hH ⟨u222, _, rfl⟩ rfl rfl rfl rfl rfl (k_rist hH hB w2.1 w2.2 (fun z84 h84 => ⟨_, rfl, ?_⟩))
      refine xif_eq 90 ⟨u222, _, rfl⟩ rfl (fun c87 => ?_) (fun c87 => ?_)
      · have e1 : fL (q3B T) (1225 * i + 35 * j + (k + 1)) = fL (q3B T) (1225 * i + 35 * j + k) := fL_skip (n := 1225 * i + 35 * j + k) (fun z => by have := hqd.mp z; omega)
        refine xcst 95 (0) ⟨u222, _, rfl⟩ rfl (by decide) (fun z94 h94 => ?_)
        refine xadd 96 _ ⟨u222, _, rfl⟩ rfl rfl (by omega) (by omega) (fun z95 h95 => ?_)
        refine xist 97 ⟨u222, _, rfl⟩ rfl rfl ?_
        refine xinc 100 (1) ⟨u222, _, rfl⟩ rfl rfl rfl (by decide) (by omega) (by omega) (fun z97 h97 => ?_)
        refine xgoto ⟨u222, _, rfl⟩ ?_
        exact ih (k + 1) z95 z97 (by omega) (by omega) (by omega) (by first | (rw [e1]; omega) | omega)
      · have e1 : fL (q3B T) (1225 * i + 35 * j + (k + 1)) = fL (q3B T) (1225 * i + 35 * j + k) ++ [1225 * i + 35 * j + k] := fL_add (n := 1225 * i + 35 * j + k) (hqd.mpr (by omega))
        have e2 := congrArg List.length e1
        rw [List.length_append, List.length_singleton] at e2
        refine xcst 91 (1) ⟨u222, _, rfl⟩ rfl (by decide) (fun z90 h90 => ?_)
        refine xgoto ⟨u222, _, rfl⟩ ?_
        refine xadd 96 _ ⟨u222, _, rfl⟩ rfl rfl (by omega) (by omega) (fun z95 h95 => ?_)
        refine xist 97 ⟨u222, _, rfl⟩ rfl rfl ?_
        refine xinc 100 (1) ⟨u222, _, rfl⟩ rfl rfl rfl (by decide) (by omega) (by omega) (fun z97 h97 => ?_)
        refine xgoto ⟨u222, _, rfl⟩ ?_
        exact ih (k + 1) z95 z97 (by omega) (by omega) (by omega) (by first | (rw [e1]; omega) | omega)
theorem l222j {d i V : Nat} {T : sT} {hp : amH} {R : xQ} {wi : Int32} (hH : bHk 84 bTT hp) (hB : rdOk hp V T) (hL : rlN hp T 225) (hwi : wi.toInt = (i : Int)) (hil : i < (trL T 225).length)
    (hQ : ∀ (w : Int32) (v3 v4 : Option Value), w.toInt = (((fL (q3B T) (1225 * (i + 1))).length : Nat) : Int) → xV (d + 2) am_m222 109 [some (.ref 66), some (.int w), some (.int wi), v3, v4] [] hp R) :
    ∀ (jj j : Nat) (w wj : Int32) (v4 : Option Value), wj.toInt = (j : Int) → i < j → j + jj = (trL T 225).length → w.toInt = (((fL (q3B T) (1225 * i + 35 * j)).length : Nat) : Int) → xV (d + 2) am_m222 20 [some (.ref 66), some (.int w), some (.int wi), some (.int wj), v4] [] hp R := by
  have l35 := trL_35 hB.2.1 225
  have L1 := hL.1
  have LM : ∀ t, t < (trL T 225).length → rN hp 75 t = ((mN T t : Nat) : Int) := fun t ht => (hL.2 t ht).2.2.2
  intro jj
  induction jj with
  | zero =>
    intro j w wj v4 hwj hij hj hw
    have e0 : fL (q3B T) (1225 * (i + 1)) = fL (q3B T) (1225 * i + 35 * j) := fL_no (by omega) (fun c c1 c2 => q3_no (by omega))
    refine xild 21 ⟨u222, _, rfl⟩ rfl rfl ?_
    refine xald 22 ⟨u222, _, rfl⟩ rfl rfl ?_
    refine xgetI 25 hH ⟨u222, _, rfl⟩ rfl rfl (fun z22 h22 => ?_)
    refine xcmp_ge 28 ⟨u222, _, rfl⟩ rfl (fun c25 => ?_) (fun c25 => ?_)
    · exact hQ _ _ _ (by rw [e0]; exact hw)
    · omega
  | succ jj ih =>
    intro j w wj v4 hwj hij hj hw
    have mi := mN_lt hB.2.1 (show i < (trL T 225).length by omega)
    have mj := mN_lt hB.2.1 (show j < (trL T 225).length by omega)
    refine xild 21 ⟨u222, _, rfl⟩ rfl rfl ?_
    refine xald 22 ⟨u222, _, rfl⟩ rfl rfl ?_
    refine xgetI 25 hH ⟨u222, _, rfl⟩ rfl rfl (fun z22 h22 => ?_)
    refine xcmp_ge 28 ⟨u222, _, rfl⟩ rfl (fun c25 => ?_) (fun c25 => ?_)
    · omega
    · refine xald 29 ⟨u222, _, rfl⟩ rfl rfl ?_
      refine xgetR 32 75 hH ⟨u222, _, rfl⟩ rfl rfl ?_
      refine xild 33 ⟨u222, _, rfl⟩ rfl rfl ?_
      refine xiald 34 (wi).toInt.toNat hH ⟨u222, _, rfl⟩ rfl (by decide) rfl (by omega) (by omega) (fun z33 h33 => ?_)
      refine xald 35 ⟨u222, _, rfl⟩ rfl rfl ?_
      refine xgetR 38 75 hH ⟨u222, _, rfl⟩ rfl rfl ?_
      refine xild 39 ⟨u222, _, rfl⟩ rfl rfl ?_
      refine xiald 40 (wj).toInt.toNat hH ⟨u222, _, rfl⟩ rfl (by decide) rfl (by omega) (by omega) (fun z39 h39 => ?_)
      refine xand 41 ⟨u222, _, rfl⟩ rfl ?_
      have a1 : z33.toInt = ((mN T i : Nat) : Int) := by rw [h33, show wi.toInt.toNat = i by omega]; exact LM i (by omega)
      have a2 : z39.toInt = ((mN T j : Nat) : Int) := by rw [h39, show wj.toInt.toNat = j by omega]; exact LM j (by omega)
      have w1 := (i_and a1 a2 mi.1).1
      refine xif_ne 44 ⟨u222, _, rfl⟩ rfl (fun c41 => ?_) (fun c41 => ?_)
      · refine xild 48 ⟨u222, _, rfl⟩ rfl rfl ?_
        refine xcst 49 (1) ⟨u222, _, rfl⟩ rfl (by decide) (fun z48 h48 => ?_)
        refine xadd 50 _ ⟨u222, _, rfl⟩ rfl rfl (by omega) (by omega) (fun z49 h49 => ?_)
        refine xist2 52 ⟨u222, _, rfl⟩ rfl rfl ?_
        have hmt : ¬ mN T i &&& mN T j = 0 := by omega
        have e0 : fL (q3B T) (1225 * i + 35 * j + (j + 1)) = fL (q3B T) (1225 * i + 35 * j) := fL_no (by omega) (fun c c1 c2 => q3_no (by omega))
        refine l222k hH hB hL hwi hwj hij (by omega) hmt (fun w v41 k1 => ?_) ((trL T 225).length - (j + 1)) (j + 1) _ _ (by omega) (by omega) (by omega) (by rw [e0]; exact hw)
        refine xinc 106 (1) ⟨u222, _, rfl⟩ rfl rfl rfl (by decide) (by omega) (by omega) (fun z103 h103 => ?_)
        refine xgoto ⟨u222, _, rfl⟩ ?_
        exact ih (j + 1) _ _ _ (by omega) (by omega) (by omega) k1
      · refine xgoto ⟨u222, _, rfl⟩ ?_
        refine xinc 106 (1) ⟨u222, _, rfl⟩ rfl rfl rfl (by decide) (by omega) (by omega) (fun z103 h103 => ?_)
        refine xgoto ⟨u222, _, rfl⟩ ?_
        have hmt : mN T i &&& mN T j = 0 := by omega
        have e0 : fL (q3B T) (1225 * i + 35 * (j + 1)) = fL (q3B T) (1225 * i + 35 * j) := fL_no (by omega) (fun c c1 c2 z => by
          have z := of_decide_eq_true z
          rw [show c / 1225 = i by omega, show c / 35 % 35 = j by omega] at z
          exact z.2.2.2.1 hmt)
        exact ih (j + 1) _ _ _ (by omega) (by omega) (by omega) (by rw [e0]; exact hw)
theorem l222i {d V : Nat} {T : sT} {hp : amH} {R : xQ} (hH : bHk 84 bTT hp) (hB : rdOk hp V T) (hL : rlN hp T 225) (hR : ∀ z : Int32, z.toInt = ((nQ T : Nat) : Int) → R (.inl (some (.int z))) hp) :
    ∀ (ii i : Nat) (w wi : Int32) (v3 v4 : Option Value), wi.toInt = (i : Int) → i + ii = (trL T 225).length → w.toInt = (((fL (q3B T) (1225 * i)).length : Nat) : Int) → xV (d + 2) am_m222 8 [some (.ref 66), some (.int w), some (.int wi), v3, v4] [] hp R := by
  have l35 := trL_35 hB.2.1 225
  have L1 := hL.1
  have q4 := q3_4 hB.2.1
  intro ii
  induction ii with
  | zero =>
    intro i w wi v3 v4 hwi hi hw
    have e0 : fL (q3B T) 42875 = fL (q3B T) (1225 * i) := fL_no (by omega) (fun c c1 c2 => q3_no (by omega))
    rw [← e0, q4] at hw
    refine xild 9 ⟨u222, _, rfl⟩ rfl rfl ?_
    refine xald 10 ⟨u222, _, rfl⟩ rfl rfl ?_
    refine xgetI 13 hH ⟨u222, _, rfl⟩ rfl rfl (fun z10 h10 => ?_)
    refine xcmp_ge 16 ⟨u222, _, rfl⟩ rfl (fun c13 => ?_) (fun c13 => ?_)
    · refine xild 116 ⟨u222, _, rfl⟩ rfl rfl ?_
      refine xcst 117 (4) ⟨u222, _, rfl⟩ rfl (by decide) (fun z116 h116 => ?_)
      refine xdiv 118 (Int32.toInt w / 4) ⟨u222, _, rfl⟩ rfl (by omega) (by omega) (by rw [h116]) (fun z117 h117 => ?_)
      exact xret ⟨u222, _, rfl⟩ rfl (hR _ (by omega))
    · omega
  | succ ii ih =>
    intro i w wi v3 v4 hwi hi hw
    refine xild 9 ⟨u222, _, rfl⟩ rfl rfl ?_
    refine xald 10 ⟨u222, _, rfl⟩ rfl rfl ?_
    refine xgetI 13 hH ⟨u222, _, rfl⟩ rfl rfl (fun z10 h10 => ?_)
    refine xcmp_ge 16 ⟨u222, _, rfl⟩ rfl (fun c13 => ?_) (fun c13 => ?_)
    · omega
    · refine xild 17 ⟨u222, _, rfl⟩ rfl rfl ?_
      refine xcst 18 (1) ⟨u222, _, rfl⟩ rfl (by decide) (fun z17 h17 => ?_)
      refine xadd 19 _ ⟨u222, _, rfl⟩ rfl rfl (by omega) (by omega) (fun z18 h18 => ?_)
      refine xist 20 ⟨u222, _, rfl⟩ rfl rfl ?_
      have e0 : fL (q3B T) (1225 * i + 35 * (i + 1)) = fL (q3B T) (1225 * i) := fL_no (by omega) (fun c c1 c2 => q3_no (by omega))
      refine l222j hH hB hL hwi (by omega) (fun w v31 v41 k1 => ?_) ((trL T 225).length - (i + 1)) (i + 1) _ _ _ (by omega) (by omega) (by omega) (by rw [e0]; exact hw)
      refine xinc 112 (1) ⟨u222, _, rfl⟩ rfl rfl rfl (by decide) (by omega) (by omega) (fun z109 h109 => ?_)
      refine xgoto ⟨u222, _, rfl⟩ ?_
      exact ih (i + 1) _ _ _ _ (by omega) (by omega) k1
theorem k_222E {d V : Nat} {T : sT} {hp : amH} {R : xQ} (hH : bHk 84 bTT hp) (hB : rdOk hp V T) (hR : ∀ (z : Int32) hp1, bHk 84 bTT hp1 → bFr bLT hp hp1 → z.toInt = ((nQ T : Nat) : Int) → R (.inl (some (.int z))) hp1) : xK (d + 2) 222 [.ref 66] hp R := by
  refine xin (M := am_m222) rfl rfl rfl ?_
  refine xald 1 ⟨u222, _, rfl⟩ rfl rfl ?_
  refine xcall 4 [.ref 66] [] hH ⟨u222, _, rfl⟩ rfl rfl rfl rfl rfl (k_rlst hH hB (fun hp1 hH1 F1 B1 L1 => ⟨_, rfl, ?_⟩))
  refine xcst 5 (0) ⟨u222, _, rfl⟩ rfl (by decide) (fun z4 h4 => ?_)
  refine xist 6 ⟨u222, _, rfl⟩ rfl rfl ?_
  refine xcst 7 (0) ⟨u222, _, rfl⟩ rfl (by decide) (fun z6 h6 => ?_)
  refine xist 8 ⟨u222, _, rfl⟩ rfl rfl ?_
  refine xpad 2 ?_
  exact l222i hH1 B1 L1 (fun z hz => hR z hp1 hH1 F1 hz) (trL T 225).length 0 _ _ _ _ (by omega) (by omega) (by show z4.toInt = ((0 : Nat) : Int); omega)
noncomputable def wQbE : List (Nat × Nat) := [(67, 999), (69, 999), (77, 999)] ++ bLT
theorem k_223E {d V n q : Nat} {h : Nat → sR} {sv : Option sR} {T : sT} {ty : Nat → Int} {hp : amH} {R : xQ} {a : Int32} (hH : bHk 84 bTT hp) (hP : P0 hp) (hS : rfS hp (V, T, ty) n h sv) (hL : rlN hp T 225) (hQ : rqN hp T 42875) (hq : q < nQ T) (ha : a.toInt = (q : Int))
    (hR : ∀ (z : Int32) hp1, bHk 84 bTT hp1 → P0 hp1 → bFr wQbE hp hp1 → rfS hp1 (V, T, ty) n h sv → rlN hp1 T 225 → rqN hp1 T 42875 → z.toInt = ((swV T q : Nat) : Int) → R (.inl (some (.int z))) hp1) : xK (d + 3) 223 [.ref 66, .int a] hp R := by
  refine xin (M := am_m223) rfl rfl rfl ?_
  refine xald 1 ⟨u223, _, rfl⟩ rfl rfl ?_
  refine xcall 4 [.ref 66] [] hH ⟨u223, _, rfl⟩ rfl rfl rfl rfl rfl (k_begE hH hP hS (fun hp1 hH1 P1 F1 S1 A1 => ⟨_, rfl, ?_⟩))
  have L1 : rlN hp1 T 225 := rlN_fr hL (r_fr F1 rfl) (fun _ => r_fr F1 rfl) (fun _ => r_fr F1 rfl) (fun _ => r_fr F1 rfl) (fun _ => r_fr F1 rfl)
  have Q1 : rqN hp1 T 42875 := rqN_fr hQ (r_fr F1 rfl) (fun _ => r_fr F1 rfl)
  refine xald 5 ⟨u223, _, rfl⟩ rfl rfl ?_
  refine xild 6 ⟨u223, _, rfl⟩ rfl rfl ?_
  refine xcall 9 [.ref 66, .int _] [] hH1 ⟨u223, _, rfl⟩ rfl rfl rfl rfl rfl (k_220E hH1 P1 S1 L1 Q1 hq ha (fun hp6 hH6 P6 F6 S6 => ⟨_, rfl, ?_⟩))
  have A6 : rowOk (rN hp6 69) (V, T, ty) := by rw [show rN hp6 69 = rN hp1 69 from funext (fun i => r_fr F6 rfl)]; exact A1
  refine xald 10 ⟨u223, _, rfl⟩ rfl rfl ?_
  refine xcall 13 [.ref 66] [] hH6 ⟨u223, _, rfl⟩ rfl rfl rfl rfl rfl (k_222E hH6 (V := V) (T := swQ T (cQ2 T q)) (rowOk_rd S6.1) (fun z10 hp10 hH10 F10 h10 => ⟨_, rfl, ?_⟩))
  have A10 : rowOk (rN hp10 69) (V, T, ty) := by rw [show rN hp10 69 = rN hp6 69 from funext (fun i => r_fr F10 rfl)]; exact A6
  have P10 : P0 hp10 := P0_W (W := bLT) (by decide) F10 P6
  have S10 := rfS_W S6 F10 (fun _ => rfl) rfl rfl (fun _ => rfl) (fun _ => rfl)
  refine xist 14 ⟨u223, _, rfl⟩ rfl rfl ?_
  refine xald 15 ⟨u223, _, rfl⟩ rfl rfl ?_
  refine xcall 18 [.ref 66] [] hH10 ⟨u223, _, rfl⟩ rfl rfl rfl rfl rfl (k_endE hH10 P10 S10 A10 (fun hp15 hH15 P15 F15 S15 => ⟨_, rfl, ?_⟩))
  refine xald 19 ⟨u223, _, rfl⟩ rfl rfl ?_
  refine xcall 22 [.ref 66] [] hH15 ⟨u223, _, rfl⟩ rfl rfl rfl rfl rfl (k_rlst hH15 (V := V) (T := T) (rowOk_rd S15.1) (fun hp19 hH19 F19 B19 L19 => ⟨_, rfl, ?_⟩))
  have F : bFr wQbE hp hp19 := ((((bFr_sub F1 (by decide)).trans (bFr_sub F6 (by decide))).trans (bFr_sub F10 (by decide))).trans (bFr_sub F15 (by decide))).trans (bFr_sub F19 (by decide))
  refine xild 23 ⟨u223, _, rfl⟩ rfl rfl ?_
  exact xret ⟨u223, _, rfl⟩ rfl (hR _ hp19 hH19 (P0_W (W := bLT) (by decide) F19 P15) F (rfS_W S15 F19 (fun _ => rfl) rfl rfl (fun _ => rfl) (fun _ => rfl)) L19 (rqN_fr hQ (r_fr F rfl) (fun _ => r_fr F rfl)) h10)
theorem l224E {d V n : Nat} {h : Nat → sR} {sv : Option sR} {T : sT} {ty : Nat → Int} {hp0 : amH} {R : xQ} {a : Int32} {most : Bool} (hm : most = true ↔ ¬ a.toInt = 0) (hT : sOk V T)
    (hR : ∀ (z : Int32) hp1, bHk 84 bTT hp1 → P0 hp1 → bFr wQbE hp0 hp1 → rfS hp1 (V, T, ty) n h sv → rlN hp1 T 225 → rqN hp1 T 42875 → z.toInt = (bsF most (swV T) (nQ T)).1 → R (.inl (some (.int z))) hp1) :
    ∀ (jj q : Nat) (w v wt : Int32) (v5 : Option Value) (hp : amH), wt.toInt = (q : Int) → q + jj = nQ T → w.toInt = (bsF most (swV T) q).1 → v.toInt = (bsF most (swV T) q).2 → bHk 84 bTT hp → P0 hp → bFr wQbE hp0 hp → rfS hp (V, T, ty) n h sv → rlN hp T 225 → rqN hp T 42875 → xV (d + 4) am_m224 11 [some (.ref 66), some (.int a), some (.int w), some (.int v), some (.int wt), v5] [] hp R := by
  have h105 := q105 hT
  intro jj
  induction jj with
  | zero =>
    intro q w v wt v5 hp hwt hj hw hv hH hP hF hS hL hQ
    have et : q = nQ T := by omega
    have q1 : rN hp 66 14 = ((nQ T : Nat) : Int) := hQ.1
    have h105 : nQ T ≤ 105 := h105
    rw [et] at hw
    refine xild2 13 ⟨u224, _, rfl⟩ rfl rfl ?_
    refine xald 14 ⟨u224, _, rfl⟩ rfl rfl ?_
    refine xgetI 17 hH ⟨u224, _, rfl⟩ rfl rfl (fun z14 h14 => ?_)
    refine xcmp_ge 20 ⟨u224, _, rfl⟩ rfl (fun c17 => ?_) (fun c17 => ?_)
    · refine xild 68 ⟨u224, _, rfl⟩ rfl rfl ?_
      exact xret ⟨u224, _, rfl⟩ rfl (hR _ hp hH hP hF hS hL hQ hw)
    · omega
  | succ jj ih =>
    intro q w v wt v5 hp hwt hj hw hv hH hP hF hS hL hQ
    have hq : q < nQ T := by omega
    have q1 : rN hp 66 14 = ((nQ T : Nat) : Int) := hQ.1
    have h105 : nQ T ≤ 105 := h105
    have bs : bsF most (swV T) (q + 1) = if (bsF most (swV T) q).1 = -1 ∨ (if most = true then (bsF most (swV T) q).2 < (swV T q : Int) else (swV T q : Int) < (bsF most (swV T) q).2) then ((q : Int), (swV T q : Int)) else bsF most (swV T) q := rfl
    refine xild2 13 ⟨u224, _, rfl⟩ rfl rfl ?_
    refine xald 14 ⟨u224, _, rfl⟩ rfl rfl ?_
    refine xgetI 17 hH ⟨u224, _, rfl⟩ rfl rfl (fun z14 h14 => ?_)
    refine xcmp_ge 20 ⟨u224, _, rfl⟩ rfl (fun c17 => ?_) (fun c17 => ?_)
    · omega
    · refine xald 21 ⟨u224, _, rfl⟩ rfl rfl ?_
      refine xild2 23 ⟨u224, _, rfl⟩ rfl rfl ?_
      refine xcall 26 [.ref 66, .int _] [] hH ⟨u224, _, rfl⟩ rfl rfl rfl rfl rfl (k_223E hH hP hS hL hQ hq hwt (fun z23 hp23 hH23 P23 F23 S23 L23 Q23 h23 => ⟨_, rfl, ?_⟩))
      refine xist2 28 ⟨u224, _, rfl⟩ rfl rfl ?_
      refine xild 29 ⟨u224, _, rfl⟩ rfl rfl ?_
      refine xcst 30 (-1) ⟨u224, _, rfl⟩ rfl (by decide) (fun z29 h29 => ?_)
      refine xcmp_eq 33 ⟨u224, _, rfl⟩ rfl (fun c30 => ?_) (fun c30 => ?_)
      · rw [if_pos (Or.inl (by omega))] at bs
        refine xild2 57 ⟨u224, _, rfl⟩ rfl rfl ?_
        refine xist 58 ⟨u224, _, rfl⟩ rfl rfl ?_
        refine xild2 60 ⟨u224, _, rfl⟩ rfl rfl ?_
        refine xist 61 ⟨u224, _, rfl⟩ rfl rfl ?_
        refine xinc 64 (1) ⟨u224, _, rfl⟩ rfl rfl rfl (by decide) (by omega) (by omega) (fun z61 h61 => ?_)
        refine xgoto ⟨u224, _, rfl⟩ ?_
        exact ih (q + 1) wt z23 z61 _ hp23 (by omega) (by omega) (by rw [bs]; exact hwt) (by rw [bs]; exact h23) hH23 P23 (hF.trans F23) S23 L23 Q23
      · refine xild 34 ⟨u224, _, rfl⟩ rfl rfl ?_
        refine xif_eq 37 ⟨u224, _, rfl⟩ rfl (fun c34 => ?_) (fun c34 => ?_)
        · refine xild2 48 ⟨u224, _, rfl⟩ rfl rfl ?_
          refine xild 49 ⟨u224, _, rfl⟩ rfl rfl ?_
          refine xcmp_lt 52 ⟨u224, _, rfl⟩ rfl (fun c49 => ?_) (fun c49 => ?_)
          · rw [if_pos (Or.inr (by rw [if_neg (fun k => hm.mp k (by omega))]; omega))] at bs
            refine xild2 57 ⟨u224, _, rfl⟩ rfl rfl ?_
            refine xist 58 ⟨u224, _, rfl⟩ rfl rfl ?_
            refine xild2 60 ⟨u224, _, rfl⟩ rfl rfl ?_
            refine xist 61 ⟨u224, _, rfl⟩ rfl rfl ?_
            refine xinc 64 (1) ⟨u224, _, rfl⟩ rfl rfl rfl (by decide) (by omega) (by omega) (fun z61 h61 => ?_)
            refine xgoto ⟨u224, _, rfl⟩ ?_
            exact ih (q + 1) wt z23 z61 _ hp23 (by omega) (by omega) (by rw [bs]; exact hwt) (by rw [bs]; exact h23) hH23 P23 (hF.trans F23) S23 L23 Q23
          · have nb : ¬ ((bsF most (swV T) q).1 = -1 ∨ (if most = true then (bsF most (swV T) q).2 < (swV T q : Int) else (swV T q : Int) < (bsF most (swV T) q).2)) := by
              rw [if_neg (fun k => hm.mp k (by omega))]
              omega
            rw [if_neg nb] at bs
            refine xgoto ⟨u224, _, rfl⟩ ?_
            refine xinc 64 (1) ⟨u224, _, rfl⟩ rfl rfl rfl (by decide) (by omega) (by omega) (fun z61 h61 => ?_)
            refine xgoto ⟨u224, _, rfl⟩ ?_
            exact ih (q + 1) w v z61 _ hp23 (by omega) (by omega) (by rw [bs]; exact hw) (by rw [bs]; exact hv) hH23 P23 (hF.trans F23) S23 L23 Q23
        · refine xild2 39 ⟨u224, _, rfl⟩ rfl rfl ?_
          refine xild 40 ⟨u224, _, rfl⟩ rfl rfl ?_
          refine xcmp_gt 43 ⟨u224, _, rfl⟩ rfl (fun c40 => ?_) (fun c40 => ?_)
          · rw [if_pos (Or.inr (by rw [if_pos (hm.mpr (by omega))]; omega))] at bs
            refine xild2 57 ⟨u224, _, rfl⟩ rfl rfl ?_
            refine xist 58 ⟨u224, _, rfl⟩ rfl rfl ?_
            refine xild2 60 ⟨u224, _, rfl⟩ rfl rfl ?_
            refine xist 61 ⟨u224, _, rfl⟩ rfl rfl ?_
            refine xinc 64 (1) ⟨u224, _, rfl⟩ rfl rfl rfl (by decide) (by omega) (by omega) (fun z61 h61 => ?_)
            refine xgoto ⟨u224, _, rfl⟩ ?_
            exact ih (q + 1) wt z23 z61 _ hp23 (by omega) (by omega) (by rw [bs]; exact hwt) (by rw [bs]; exact h23) hH23 P23 (hF.trans F23) S23 L23 Q23
          · have nb : ¬ ((bsF most (swV T) q).1 = -1 ∨ (if most = true then (bsF most (swV T) q).2 < (swV T q : Int) else (swV T q : Int) < (bsF most (swV T) q).2)) := by
              rw [if_pos (hm.mpr (by omega))]
              omega
            rw [if_neg nb] at bs
            refine xgoto ⟨u224, _, rfl⟩ ?_
            refine xinc 64 (1) ⟨u224, _, rfl⟩ rfl rfl rfl (by decide) (by omega) (by omega) (fun z61 h61 => ?_)
            refine xgoto ⟨u224, _, rfl⟩ ?_
            exact ih (q + 1) w v z61 _ hp23 (by omega) (by omega) (by rw [bs]; exact hw) (by rw [bs]; exact hv) hH23 P23 (hF.trans F23) S23 L23 Q23
noncomputable def wBqE : List (Nat × Nat) := [(66, 14), (76, 999), (67, 999), (69, 999), (77, 999)] ++ bLT
theorem k_224E {d V n : Nat} {h : Nat → sR} {sv : Option sR} {T : sT} {ty : Nat → Int} {hp : amH} {R : xQ} {a : Int32} {most : Bool} (hm : most = true ↔ ¬ a.toInt = 0) (hH : bHk 84 bTT hp) (hP : P0 hp) (hS : rfS hp (V, T, ty) n h sv)
    (hR : ∀ (z : Int32) hp1, bHk 84 bTT hp1 → P0 hp1 → bFr wBqE hp hp1 → rfS hp1 (V, T, ty) n h sv → rlN hp1 T 225 → rqN hp1 T 42875 → z.toInt = (bsF most (swV T) (nQ T)).1 → R (.inl (some (.int z))) hp1) : xK (d + 5) 224 [.ref 66, .int a] hp R := by
  have hT : sOk V T := hS.1.2.1
  refine xin (M := am_m224) rfl rfl rfl ?_
  refine xald 1 ⟨u224, _, rfl⟩ rfl rfl ?_
  refine xcall 4 [.ref 66] [] hH ⟨u224, _, rfl⟩ rfl rfl rfl rfl rfl (k_lqs hH (V := V) (T := T) (rowOk_rd hS.1) (q105 hT) (fun hp1 hH1 F1 B1 L1 Q1 => ⟨_, rfl, ?_⟩))
  have S1 := rfS_W hS F1 (fun _ => rfl) rfl rfl (fun _ => rfl) (fun _ => rfl)
  have P1 : P0 hp1 := P0_W (W := wLQE) (by decide) F1 hP
  refine xcst 5 (-1) ⟨u224, _, rfl⟩ rfl (by decide) (fun z4 h4 => ?_)
  refine xist 6 ⟨u224, _, rfl⟩ rfl rfl ?_
  refine xcst 7 (0) ⟨u224, _, rfl⟩ rfl (by decide) (fun z6 h6 => ?_)
  refine xist 8 ⟨u224, _, rfl⟩ rfl rfl ?_
  refine xcst 9 (0) ⟨u224, _, rfl⟩ rfl (by decide) (fun z8 h8 => ?_)
  refine xist2 11 ⟨u224, _, rfl⟩ rfl rfl ?_
  refine xpad 1 ?_
  exact l224E hm hT (fun z hp2 k1 k2 k3 k4 k5 k6 k7 => hR z hp2 k1 k2 ((bFr_sub F1 (by decide)).trans (bFr_sub k3 (by decide))) k4 k5 k6 k7) (nQ T) 0 _ _ _ _ hp1 h8 (by omega) h4 h6 hH1 P1 (bFr.refl _ _) S1 L1 Q1
theorem k_gqd {d V : Nat} {T : sT} {hp : amH} {R : xQ} {t : Int32} (hH : bHk 84 bTT hp) (hB : rdOk hp V T)
    (hR : ∀ (z : Int32) hp1, bHk 84 bTT hp1 → bFr ((66, 7) :: wLQE) hp hp1 → rdOk hp1 V T → rlN hp1 T 225 → rqN hp1 T 42875 → rN hp1 66 7 = gTri (nQ T) t.toInt → ((gTri (nQ T) t.toInt = 0 ∧ z.toInt = 0) ∨ (gTri (nQ T) t.toInt = 1 ∧ z.toInt = 1)) → R (.inl (some (.int z))) hp1) : xK (d + 5) 258 [.ref 66, .int t] hp R := by
  have h105 : nQ T ≤ 105 := q105 hB.2.1
  refine xin (M := am_m258) rfl rfl rfl ?_
  refine xald 1 ⟨u258, _, rfl⟩ rfl rfl ?_
  refine xcst 2 (0) ⟨u258, _, rfl⟩ rfl (by decide) (fun z1 h1 => ?_)
  refine xputI 5 hH ⟨u258, _, rfl⟩ rfl rfl ⟨rfl, rfl⟩ (by omega) (by omega) (fun hp2 hH2 U2 => ?_)
  have s2 := U2.1
  refine xald 6 ⟨u258, _, rfl⟩ rfl rfl ?_
  refine xcall 9 [.ref 66] [] hH2 ⟨u258, _, rfl⟩ rfl rfl rfl rfl rfl (k_lqs hH2 (rdOk_fr hB (fun i => rU_ne U2 (by first | decide | exact (fun z => absurd z.1 (by decide)) | omega))) (q105 hB.2.1) (fun hp6 hH6 F6 B6 L6 Q6 => ⟨_, rfl, ?_⟩))
  have Q61 : rN hp6 66 14 = ((nQ T : Nat) : Int) := Q6.1
  have s6 : rN hp6 66 7 = 0 := (r_fr F6 rfl).trans (U2.1.trans h1)
  have F26 : bFr ((66, 7) :: wLQE) hp hp6 := (rU_fr U2 (by decide)).trans (bFr_sub F6 (by decide))
  refine xald 10 ⟨u258, _, rfl⟩ rfl rfl ?_
  refine xild 11 ⟨u258, _, rfl⟩ rfl rfl ?_
  refine xcst 12 (0) ⟨u258, _, rfl⟩ rfl (by decide) (fun z11 h11 => ?_)
  refine xald 13 ⟨u258, _, rfl⟩ rfl rfl ?_
  refine xgetI 16 hH6 ⟨u258, _, rfl⟩ rfl rfl (fun z13 h13 => ?_)
  refine xcst 17 (1) ⟨u258, _, rfl⟩ rfl (by decide) (fun z16 h16 => ?_)
  refine xsub 18 _ ⟨u258, _, rfl⟩ rfl rfl (by omega) (by omega) (fun z17 h17 => ?_)
  refine xcallS 21 [.int _, .int _, .int _] [.ref 66] hH6 ⟨u258, _, rfl⟩ rfl rfl rfl rfl rfl (k_inr (fun z18 h18 => ⟨_, rfl, ?_⟩))
  refine xif_ne 24 ⟨u258, _, rfl⟩ rfl (fun c21 => ?_) (fun c21 => ?_)
  · refine xcst 29 (0) ⟨u258, _, rfl⟩ rfl (by decide) (fun z28 h28 => ?_)
    refine xcst 30 (1) ⟨u258, _, rfl⟩ rfl (by decide) (fun z29 h29 => ?_)
    refine xcall 33 [.ref 66, .int _, .int _] [] hH6 ⟨u258, _, rfl⟩ rfl rfl rfl rfl rfl (k_failsE hH6 (by omega) (fun hp30 hH30 V30 => ⟨_, rfl, ?_⟩))
    rcases V30 with ⟨a, e⟩ | ⟨a, U⟩
    · first
      | (exfalso; omega)
      | (subst e
         have g : gTri (nQ T) t.toInt = 0 := gTri_0.mpr (by omega)
         exact xretB ⟨u258, _, rfl⟩ rfl (by omega) (hR _ _ hH30 F26 B6 L6 Q6 (by rw [g]; exact s6) (Or.inl ⟨g, a⟩)))
    · first
      | (exfalso; omega)
      | (have g : gTri (nQ T) t.toInt = 1 := by unfold gTri; rw [if_neg (by omega)]
         exact xretB ⟨u258, _, rfl⟩ rfl (by omega) (hR _ _ hH30 (F26.trans (rU_fr U (by decide))) (rdOk_fr B6 (fun i => rU_ne U (by first | decide | exact (fun z => absurd z.1 (by decide)) | omega))) (rlN_fr L6 (rU_ne U (by first | decide | exact (fun z => absurd z.1 (by decide)) | omega)) (fun i => rU_ne U (by first | decide | exact (fun z => absurd z.1 (by decide)) | omega)) (fun i => rU_ne U (by first | decide | exact (fun z => absurd z.1 (by decide)) | omega)) (fun i => rU_ne U (by first | decide | exact (fun z => absurd z.1 (by decide)) | omega)) (fun i => rU_ne U (by first | decide | exact (fun z => absurd z.1 (by decide)) | omega))) (rqN_fr Q6 (rU_ne U (by first | decide | exact (fun z => absurd z.1 (by decide)) | omega)) (fun i => rU_ne U (by first | decide | exact (fun z => absurd z.1 (by decide)) | omega))) (by rw [g, U.1]; exact h29) (Or.inr ⟨g, a⟩)))
  · refine xcst 25 (1) ⟨u258, _, rfl⟩ rfl (by decide) (fun z24 h24 => ?_)
    refine xgoto ⟨u258, _, rfl⟩ ?_
    refine xcst 30 (1) ⟨u258, _, rfl⟩ rfl (by decide) (fun z29 h29 => ?_)
    refine xcall 33 [.ref 66, .int _, .int _] [] hH6 ⟨u258, _, rfl⟩ rfl rfl rfl rfl rfl (k_failsE hH6 (by omega) (fun hp30 hH30 V30 => ⟨_, rfl, ?_⟩))
    rcases V30 with ⟨a, e⟩ | ⟨a, U⟩
    · first
      | (exfalso; omega)
      | (subst e
         have g : gTri (nQ T) t.toInt = 0 := gTri_0.mpr (by omega)
         exact xretB ⟨u258, _, rfl⟩ rfl (by omega) (hR _ _ hH30 F26 B6 L6 Q6 (by rw [g]; exact s6) (Or.inl ⟨g, a⟩)))
    · first
      | (exfalso; omega)
      | (have g : gTri (nQ T) t.toInt = 1 := by unfold gTri; rw [if_neg (by omega)]
         exact xretB ⟨u258, _, rfl⟩ rfl (by omega) (hR _ _ hH30 (F26.trans (rU_fr U (by decide))) (rdOk_fr B6 (fun i => rU_ne U (by first | decide | exact (fun z => absurd z.1 (by decide)) | omega))) (rlN_fr L6 (rU_ne U (by first | decide | exact (fun z => absurd z.1 (by decide)) | omega)) (fun i => rU_ne U (by first | decide | exact (fun z => absurd z.1 (by decide)) | omega)) (fun i => rU_ne U (by first | decide | exact (fun z => absurd z.1 (by decide)) | omega)) (fun i => rU_ne U (by first | decide | exact (fun z => absurd z.1 (by decide)) | omega)) (fun i => rU_ne U (by first | decide | exact (fun z => absurd z.1 (by decide)) | omega))) (rqN_fr Q6 (rU_ne U (by first | decide | exact (fun z => absurd z.1 (by decide)) | omega)) (fun i => rU_ne U (by first | decide | exact (fun z => absurd z.1 (by decide)) | omega))) (by rw [g, U.1]; exact h29) (Or.inr ⟨g, a⟩)))
theorem k_261E {d V : Nat} {T : sT} {hp : amH} {R : xQ} (hH : bHk 84 bTT hp) (hB : rdOk hp V T) (hR : ∀ (z : Int32) hp1, bHk 84 bTT hp1 → bFr wLQE hp hp1 → rlN hp1 T 225 → rqN hp1 T 42875 → z.toInt = ((nQ T : Nat) : Int) → R (.inl (some (.int z))) hp1) : xK (d + 5) 261 [.ref 66] hp R := by
  refine xin (M := am_m261) rfl rfl rfl ?_
  refine xald 1 ⟨u261, _, rfl⟩ rfl rfl ?_
  refine xcall 4 [.ref 66] [] hH ⟨u261, _, rfl⟩ rfl rfl rfl rfl rfl (k_lqs hH hB (q105 hB.2.1) (fun hp1 hH1 F1 B1 L1 Q1 => ⟨_, rfl, ?_⟩))
  refine xald 5 ⟨u261, _, rfl⟩ rfl rfl ?_
  refine xgetI 8 hH1 ⟨u261, _, rfl⟩ rfl rfl (fun z5 h5 => ?_)
  exact xret ⟨u261, _, rfl⟩ rfl (hR _ hp1 hH1 F1 L1 Q1 (by rw [h5]; exact Q1.1))
theorem k_292E {d V n : Nat} {h : Nat → sR} {sv : Option sR} {T : sT} {ty : Nat → Int} {hp : amH} {R : xQ} {t : Int32} (hH : bHk 84 bTT hp) (hP : P0 hp) (hS : rfS hp (V, T, ty) n h sv)
    (hR : ∀ (z : Int32) hp1, bHk 84 bTT hp1 → P0 hp1 → bFr wM hp hp1 → rN hp1 66 7 = gTri (nQ T) t.toInt → ((¬ gTri (nQ T) t.toInt = 0 ∧ rfS hp1 (V, T, ty) n h sv) ∨ (gTri (nQ T) t.toInt = 0 ∧ rfS hp1 (V, swQ T (cQ2 T t.toInt.toNat), tyQ ty) (pM n + 1) (pH n h (V, T, ty)) sv ∧ z.toInt = ((swV T t.toInt.toNat : Nat) : Int))) → R (.inl (some (.int z))) hp1) : xK (d + 6) 292 [.ref 66, .int t] hp R := by
  have hT : sOk V T := hS.1.2.1
  refine xin (M := am_m292) rfl rfl rfl ?_
  refine xald 1 ⟨u292, _, rfl⟩ rfl rfl ?_
  refine xild 2 ⟨u292, _, rfl⟩ rfl rfl ?_
  refine xcall 5 [.ref 66, .int _] [] hH ⟨u292, _, rfl⟩ rfl rfl rfl rfl rfl (k_gqd hH (V := V) (T := T) (rowOk_rd hS.1) (fun z2 hp2 hH2 F2 B2 L2 Q2 t2 o2 => ⟨_, rfl, ?_⟩))
  have S2 := rfS_W hS F2 (fun _ => rfl) rfl rfl (fun _ => rfl) (fun _ => rfl)
  have P2 : P0 hp2 := P0_W (W := (66, 7) :: wLQE) (by decide) F2 hP
  refine xif_eq 8 ⟨u292, _, rfl⟩ rfl (fun c5 => ?_) (fun c5 => ?_)
  · have g2 : gTri (nQ T) t.toInt = 0 := by omega
    have k2 := gTri_0.mp g2
    refine xald 11 ⟨u292, _, rfl⟩ rfl rfl ?_
    refine xcall 14 [.ref 66] [] hH2 ⟨u292, _, rfl⟩ rfl rfl rfl rfl rfl (k_rmS hH2 P2 S2 (fun hp11 hH11 P11 F11 S11 => ⟨_, rfl, ?_⟩))
    have L11 : rlN hp11 T 225 := rlN_fr L2 (r_fr F11 rfl) (fun _ => r_fr F11 rfl) (fun _ => r_fr F11 rfl) (fun _ => r_fr F11 rfl) (fun _ => r_fr F11 rfl)
    have Q11 : rqN hp11 T 42875 := rqN_fr Q2 (r_fr F11 rfl) (fun _ => r_fr F11 rfl)
    refine xald 15 ⟨u292, _, rfl⟩ rfl rfl ?_
    refine xild 16 ⟨u292, _, rfl⟩ rfl rfl ?_
    refine xcall 19 [.ref 66, .int _] [] hH11 ⟨u292, _, rfl⟩ rfl rfl rfl rfl rfl (k_220E hH11 P11 S11 L11 Q11 (q := t.toInt.toNat) (by omega) (by omega) (fun hp16 hH16 P16 F16 S16 => ⟨_, rfl, ?_⟩))
    refine xald 20 ⟨u292, _, rfl⟩ rfl rfl ?_
    refine xcall 23 [.ref 66] [] hH16 ⟨u292, _, rfl⟩ rfl rfl rfl rfl rfl (k_261E hH16 (V := V) (T := swQ T (cQ2 T t.toInt.toNat)) (rowOk_rd S16.1) (fun z20 hp20 hH20 F20 L20 Q20 h20 => ⟨_, rfl, ?_⟩))
    exact xret ⟨u292, _, rfl⟩ rfl (hR _ hp20 hH20 (P0_W (W := wLQE) (by decide) F20 P16) ((((bFr_sub F2 (by decide)).trans (bFr_sub F11 (by decide))).trans (bFr_sub F16 (by decide))).trans (bFr_sub F20 (by decide))) (by rw [show rN hp20 66 7 = rN hp16 66 7 from r_fr F20 rfl, show rN hp16 66 7 = rN hp11 66 7 from r_fr F16 rfl, show rN hp11 66 7 = rN hp2 66 7 from r_fr F11 rfl]; exact t2) (Or.inr ⟨g2, rfS_W S16 F20 (fun _ => rfl) rfl rfl (fun _ => rfl) (fun _ => rfl), h20⟩))
  · refine xcst 9 (0) ⟨u292, _, rfl⟩ rfl (by decide) (fun z8 h8 => ?_)
    exact xret ⟨u292, _, rfl⟩ rfl (hR _ hp2 hH2 P2 (bFr_sub F2 (by decide)) t2 (Or.inl ⟨by omega, S2⟩))
theorem k_293E {d V n : Nat} {h : Nat → sR} {sv : Option sR} {T : sT} {ty : Nat → Int} {hp : amH} {R : xQ} {t : Int32} (hH : bHk 84 bTT hp) (hP : P0 hp) (hS : rfS hp (V, T, ty) n h sv)
    (hR : ∀ (z : Int32) hp1, bHk 84 bTT hp1 → P0 hp1 → bFr wM hp hp1 → rN hp1 66 7 = gTri (nQ T) t.toInt → rfS hp1 (V, T, ty) n h sv → (¬ gTri (nQ T) t.toInt = 0 ∨ z.toInt = ((swV T t.toInt.toNat : Nat) : Int)) → R (.inl (some (.int z))) hp1) : xK (d + 6) 293 [.ref 66, .int t] hp R := by
  have hT : sOk V T := hS.1.2.1
  refine xin (M := am_m293) rfl rfl rfl ?_
  refine xald 1 ⟨u293, _, rfl⟩ rfl rfl ?_
  refine xild 2 ⟨u293, _, rfl⟩ rfl rfl ?_
  refine xcall 5 [.ref 66, .int _] [] hH ⟨u293, _, rfl⟩ rfl rfl rfl rfl rfl (k_gqd hH (V := V) (T := T) (rowOk_rd hS.1) (fun z2 hp2 hH2 F2 B2 L2 Q2 t2 o2 => ⟨_, rfl, ?_⟩))
  have S2 := rfS_W hS F2 (fun _ => rfl) rfl rfl (fun _ => rfl) (fun _ => rfl)
  have P2 : P0 hp2 := P0_W (W := (66, 7) :: wLQE) (by decide) F2 hP
  refine xif_eq 8 ⟨u293, _, rfl⟩ rfl (fun c5 => ?_) (fun c5 => ?_)
  · have g2 : gTri (nQ T) t.toInt = 0 := by omega
    have k2 := gTri_0.mp g2
    refine xald 13 ⟨u293, _, rfl⟩ rfl rfl ?_
    refine xild 14 ⟨u293, _, rfl⟩ rfl rfl ?_
    refine xcall 17 [.ref 66, .int _] [] hH2 ⟨u293, _, rfl⟩ rfl rfl rfl rfl rfl (k_223E hH2 P2 S2 L2 Q2 (q := t.toInt.toNat) (by omega) (by omega) (fun z14 hp14 hH14 P14 F14 S14 L14 Q14 h14 => ⟨_, rfl, ?_⟩))
    exact xret ⟨u293, _, rfl⟩ rfl (hR _ hp14 hH14 P14 ((bFr_sub F2 (by decide)).trans (bFr_sub F14 (by decide))) (by rw [show rN hp14 66 7 = rN hp2 66 7 from r_fr F14 rfl]; exact t2) S14 (Or.inr h14))
  · refine xcst 9 (0) ⟨u293, _, rfl⟩ rfl (by decide) (fun z8 h8 => ?_)
    refine xgoto ⟨u293, _, rfl⟩ ?_
    exact xret ⟨u293, _, rfl⟩ rfl (hR _ hp2 hH2 P2 (bFr_sub F2 (by decide)) t2 S2 (Or.inl (by omega)))
theorem k_294E {d V n : Nat} {h : Nat → sR} {sv : Option sR} {T : sT} {ty : Nat → Int} {hp : amH} {R : xQ} {a : Int32} {most : Bool} (hm : most = true ↔ ¬ a.toInt = 0) (hH : bHk 84 bTT hp) (hP : P0 hp) (hS : rfS hp (V, T, ty) n h sv)
    (hR : ∀ (z : Int32) hp1, bHk 84 bTT hp1 → P0 hp1 → bFr wM hp hp1 → rfS hp1 (V, T, ty) n h sv → z.toInt = (bsF most (swV T) (nQ T)).1 → R (.inl (some (.int z))) hp1) : xK (d + 6) 294 [.ref 66, .int a] hp R := by
  refine xin (M := am_m294) rfl rfl rfl ?_
  refine xald 1 ⟨u294, _, rfl⟩ rfl rfl ?_
  refine xcst 2 (0) ⟨u294, _, rfl⟩ rfl (by decide) (fun z1 h1 => ?_)
  refine xputI 5 hH ⟨u294, _, rfl⟩ rfl rfl ⟨rfl, rfl⟩ (by omega) (by omega) (fun hp2 hH2 U2 => ?_)
  have s2 := U2.1
  have F2 : bFr [(66, 7)] hp hp2 := rU_fr U2 (by decide)
  have S2 := rfS_W hS F2 (fun _ => rfl) rfl rfl (fun _ => rfl) (fun _ => rfl)
  have P2 : P0 hp2 := P0_W (W := [(66, 7)]) (by decide) F2 hP
  refine xald 6 ⟨u294, _, rfl⟩ rfl rfl ?_
  refine xild 7 ⟨u294, _, rfl⟩ rfl rfl ?_
  refine xcall 10 [.ref 66, .int _] [] hH2 ⟨u294, _, rfl⟩ rfl rfl rfl rfl rfl (k_224E hm hH2 P2 S2 (fun z7 hp7 hH7 P7 F7 S7 L7 Q7 h7 => ⟨_, rfl, ?_⟩))
  exact xret ⟨u294, _, rfl⟩ rfl (hR _ hp7 hH7 P7 ((bFr_sub F2 (by decide)).trans (bFr_sub F7 (by decide))) S7 h7)
theorem l295E {d V n m : Nat} {h : Nat → sR} {sv : Option sR} {T0 : sT} {ty0 : Nat → Int} {hp0 : amH} {R : xQ} {a : Int32} (ha : a.toInt = (m : Int)) (hm : m ≤ 20)
    (hR : ∀ (z : Int32) hp1, bHk 84 bTT hp1 → P0 hp1 → bFr wBqE hp0 hp1 → rfS hp1 (V, (dsF m T0 ty0 0).1, (dsF m T0 ty0 0).2.1) n h sv → z.toInt = (((dsF m T0 ty0 0).2.2 : Nat) : Int) → R (.inl (some (.int z))) hp1) :
    ∀ (jj k : Nat) (T : sT) (ty : Nat → Int) (w : Int32) (v3 : Option Value) (hp : amH), w.toInt = (k : Int) → k + jj = m → dsF jj T ty k = dsF m T0 ty0 0 → bHk 84 bTT hp → P0 hp → bFr wBqE hp0 hp → rfS hp (V, T, ty) n h sv → xV (d + 6) am_m295 36 [some (.ref 66), some (.int a), some (.int w), v3] [] hp R := by
  intro jj
  induction jj with
  | zero =>
    intro k T ty w v3 hp hw hj he hH hP hF hS
    have he : (T, ty, k) = dsF m T0 ty0 0 := he
    refine xild 37 ⟨u295, _, rfl⟩ rfl rfl ?_
    refine xild 38 ⟨u295, _, rfl⟩ rfl rfl ?_
    refine xcmp_ge 41 ⟨u295, _, rfl⟩ rfl (fun c38 => ?_) (fun c38 => ?_)
    · refine xild 78 ⟨u295, _, rfl⟩ rfl rfl ?_
      exact xret ⟨u295, _, rfl⟩ rfl (hR _ hp hH hP hF (by rw [← he]; exact hS) (by rw [← he]; show a.toInt = ((k : Nat) : Int); omega))
    · omega
  | succ jj ih =>
    intro k T ty w v3 hp hw hj he hH hP hF hS
    have hT : sOk V T := hS.1.2.1
    have ds : dsF (jj + 1) T ty k = if (bsF false (swV T) (nQ T)).1 = -1 ∨ nQ T ≤ swV T (bsF false (swV T) (nQ T)).1.toNat then (T, ty, k) else dsF jj (swQ T (cQ2 T (bsF false (swV T) (nQ T)).1.toNat)) (tyQ ty) (k + 1) := rfl
    have bi : (bsF false (swV T) (nQ T)).1 = -1 ∨ (0 ≤ (bsF false (swV T) (nQ T)).1 ∧ (bsF false (swV T) (nQ T)).1 < (nQ T : Int)) := by
      rcases bsF_in false (swV T) (nQ T) with ⟨e, -⟩ | ⟨b, b1, b2, -⟩
      · exact Or.inl e
      · exact Or.inr (by omega)
    obtain ⟨β, hβ⟩ : ∃ β : Int, (bsF false (swV T) (nQ T)).1 = β := ⟨_, rfl⟩
    rw [hβ] at ds bi
    refine xild 37 ⟨u295, _, rfl⟩ rfl rfl ?_
    refine xild 38 ⟨u295, _, rfl⟩ rfl rfl ?_
    refine xcmp_ge 41 ⟨u295, _, rfl⟩ rfl (fun c38 => ?_) (fun c38 => ?_)
    · omega
    · refine xald 42 ⟨u295, _, rfl⟩ rfl rfl ?_
      refine xcst 43 (0) ⟨u295, _, rfl⟩ rfl (by decide) (fun z42 h42 => ?_)
      refine xcall 46 [.ref 66, .int _] [] hH ⟨u295, _, rfl⟩ rfl rfl rfl rfl rfl (k_224E (most := false) ⟨fun z => (by cases z), fun z => absurd h42 z⟩ hH hP hS (fun z43 hp43 hH43 P43 F43 S43 L43 Q43 h43 => ⟨_, rfl, ?_⟩))
      have h43 := h43.trans hβ
      refine xist 47 ⟨u295, _, rfl⟩ rfl rfl ?_
      refine xild 48 ⟨u295, _, rfl⟩ rfl rfl ?_
      refine xcst 49 (-1) ⟨u295, _, rfl⟩ rfl (by decide) (fun z48 h48 => ?_)
      refine xcmp_eq 52 ⟨u295, _, rfl⟩ rfl (fun c49 => ?_) (fun c49 => ?_)
      · rw [ds, if_pos (Or.inl (by omega))] at he
        refine xild 65 ⟨u295, _, rfl⟩ rfl rfl ?_
        exact xret ⟨u295, _, rfl⟩ rfl (hR _ hp43 hH43 P43 (hF.trans F43) (by rw [← he]; exact S43) (by rw [← he]; exact hw))
      · refine xald 53 ⟨u295, _, rfl⟩ rfl rfl ?_
        refine xild 54 ⟨u295, _, rfl⟩ rfl rfl ?_
        refine xcall 57 [.ref 66, .int _] [] hH43 ⟨u295, _, rfl⟩ rfl rfl rfl rfl rfl (k_223E hH43 P43 S43 L43 Q43 (q := β.toNat) (by omega) (by omega) (fun z54 hp54 hH54 P54 F54 S54 L54 Q54 h54 => ⟨_, rfl, ?_⟩))
        have q54 : rN hp54 66 14 = ((nQ T : Nat) : Int) := Q54.1
        refine xald 58 ⟨u295, _, rfl⟩ rfl rfl ?_
        refine xgetI 61 hH54 ⟨u295, _, rfl⟩ rfl rfl (fun z58 h58 => ?_)
        refine xcmp_lt 64 ⟨u295, _, rfl⟩ rfl (fun c61 => ?_) (fun c61 => ?_)
        · rw [ds, if_neg (by omega)] at he
          refine xald 67 ⟨u295, _, rfl⟩ rfl rfl ?_
          refine xild 68 ⟨u295, _, rfl⟩ rfl rfl ?_
          refine xcall 71 [.ref 66, .int _] [] hH54 ⟨u295, _, rfl⟩ rfl rfl rfl rfl rfl (k_220E hH54 P54 S54 L54 Q54 (q := β.toNat) (by omega) (by omega) (fun hp68 hH68 P68 F68 S68 => ⟨_, rfl, ?_⟩))
          refine xinc 74 (1) ⟨u295, _, rfl⟩ rfl rfl rfl (by decide) (by omega) (by omega) (fun z71 h71 => ?_)
          refine xgoto ⟨u295, _, rfl⟩ ?_
          exact ih (k + 1) _ _ z71 _ hp68 (by omega) (by omega) he hH68 P68 (hF.trans (F43.trans ((bFr_sub F54 (by decide)).trans (bFr_sub F68 (by decide))))) S68
        · rw [ds, if_pos (Or.inr (by omega))] at he
          refine xild 65 ⟨u295, _, rfl⟩ rfl rfl ?_
          exact xret ⟨u295, _, rfl⟩ rfl (hR _ hp54 hH54 P54 (hF.trans (F43.trans (bFr_sub F54 (by decide)))) (by rw [← he]; exact S54) (by rw [← he]; exact hw))
theorem k_295E {d V n : Nat} {h : Nat → sR} {sv : Option sR} {T : sT} {ty : Nat → Int} {hp : amH} {R : xQ} {t : Int32} (hH : bHk 84 bTT hp) (hP : P0 hp) (hS : rfS hp (V, T, ty) n h sv)
    (hR : ∀ (z : Int32) hp1, bHk 84 bTT hp1 → P0 hp1 → bFr wM hp hp1 → rN hp1 66 7 = gTm t.toInt → ((¬ gTm t.toInt = 0 ∧ rfS hp1 (V, T, ty) n h sv) ∨ (gTm t.toInt = 0 ∧ rfS hp1 (V, (dsF t.toInt.toNat T ty 0).1, (dsF t.toInt.toNat T ty 0).2.1) (pM n + 1) (pH n h (V, T, ty)) sv ∧ z.toInt = (((dsF t.toInt.toNat T ty 0).2.2 : Nat) : Int))) → R (.inl (some (.int z))) hp1) : xK (d + 6) 295 [.ref 66, .int t] hp R := by
  refine xin (M := am_m295) rfl rfl rfl ?_
  refine xald 1 ⟨u295, _, rfl⟩ rfl rfl ?_
  refine xcst 2 (0) ⟨u295, _, rfl⟩ rfl (by decide) (fun z1 h1 => ?_)
  refine xputI 5 hH ⟨u295, _, rfl⟩ rfl rfl ⟨rfl, rfl⟩ (by omega) (by omega) (fun hp2 hH2 U2 => ?_)
  have s2 := U2.1
  have F2 : bFr [(66, 7)] hp hp2 := rU_fr U2 (by decide)
  have S2 := rfS_W hS F2 (fun _ => rfl) rfl rfl (fun _ => rfl) (fun _ => rfl)
  have P2 : P0 hp2 := P0_W (W := [(66, 7)]) (by decide) F2 hP
  refine xald 6 ⟨u295, _, rfl⟩ rfl rfl ?_
  refine xild 7 ⟨u295, _, rfl⟩ rfl rfl ?_
  refine xcst 8 (1) ⟨u295, _, rfl⟩ rfl (by decide) (fun z7 h7 => ?_)
  refine xbip 10 (20) ⟨u295, _, rfl⟩ rfl (by decide) (fun z8 h8 => ?_)
  refine xcallS 13 [.int _, .int _, .int _] [.ref 66] hH2 ⟨u295, _, rfl⟩ rfl rfl rfl rfl rfl (k_inr (fun z10 h10 => ⟨_, rfl, ?_⟩))
  refine xif_ne 16 ⟨u295, _, rfl⟩ rfl (fun c13 => ?_) (fun c13 => ?_)
  · refine xcst 21 (0) ⟨u295, _, rfl⟩ rfl (by decide) (fun z20 h20 => ?_)
    refine xcst 22 (1) ⟨u295, _, rfl⟩ rfl (by decide) (fun z21 h21 => ?_)
    refine xcall 25 [.ref 66, .int _, .int _] [] hH2 ⟨u295, _, rfl⟩ rfl rfl rfl rfl rfl (k_failsE hH2 (by omega) (fun hp22 hH22 V22 => ⟨_, rfl, ?_⟩))
    refine xif_eq 28 ⟨u295, _, rfl⟩ rfl (fun c25 => ?_) (fun c25 => ?_)
    · have g2 : gTm t.toInt = 0 := by unfold gTm; rw [if_pos (by omega)]
      obtain ⟨Hq, Pq, Sq, Fq, sq⟩ : bHk 84 bTT hp22 ∧ P0 hp22 ∧ rfS hp22 (V, T, ty) n h sv ∧ bFr [(66, 7)] hp hp22 ∧ rN hp22 66 7 = 0 := by
        rcases V22 with ⟨a, e⟩ | ⟨a, U⟩
        · subst e
          exact ⟨hH2, P2, S2, F2, U2.1.trans h1⟩
        · exfalso; omega
      have hHq := Hq
      refine xald 31 ⟨u295, _, rfl⟩ rfl rfl ?_
      refine xcall 34 [.ref 66] [] Hq ⟨u295, _, rfl⟩ rfl rfl rfl rfl rfl (k_rmS hHq Pq Sq (fun hp31 hH31 P31 F31 S31 => ⟨_, rfl, ?_⟩))
      refine xcst 35 (0) ⟨u295, _, rfl⟩ rfl (by decide) (fun z34 h34 => ?_)
      refine xist 36 ⟨u295, _, rfl⟩ rfl rfl ?_
      refine xpad 1 ?_
      exact l295E (m := t.toInt.toNat) (by omega) (by omega) (fun z hp1 k1 k2 k3 k4 k5 => hR z hp1 k1 k2 ((bFr_sub Fq (by decide)).trans ((bFr_sub F31 (by decide)).trans (bFr_sub k3 (by decide)))) (by rw [show rN hp1 66 7 = rN hp31 66 7 from r_fr k3 rfl, show rN hp31 66 7 = rN hp22 66 7 from r_fr F31 rfl, g2]; exact sq) (Or.inr ⟨g2, k4, k5⟩)) t.toInt.toNat 0 T ty _ _ hp31 h34 (by omega) rfl hH31 P31 (bFr.refl _ _) S31
    · refine xcst 29 (0) ⟨u295, _, rfl⟩ rfl (by decide) (fun z28 h28 => ?_)
      rcases V22 with ⟨a, e⟩ | ⟨a, U⟩
      · exfalso; omega
      · have g : gTm t.toInt = 1 := by unfold gTm; rw [if_neg (by omega)]
        have FU : bFr [(66, 7)] hp2 hp22 := rU_fr U (by decide)
        exact xret ⟨u295, _, rfl⟩ rfl (hR _ hp22 hH22 (P0_W (W := [(66, 7)]) (by decide) FU P2) ((bFr_sub F2 (by decide)).trans (bFr_sub FU (by decide))) (by rw [g, U.1]; exact h21) (Or.inl ⟨by omega, rfS_W S2 FU (fun _ => rfl) rfl rfl (fun _ => rfl) (fun _ => rfl)⟩))
  · refine xcst 17 (1) ⟨u295, _, rfl⟩ rfl (by decide) (fun z16 h16 => ?_)
    refine xgoto ⟨u295, _, rfl⟩ ?_
    refine xcst 22 (1) ⟨u295, _, rfl⟩ rfl (by decide) (fun z21 h21 => ?_)
    refine xcall 25 [.ref 66, .int _, .int _] [] hH2 ⟨u295, _, rfl⟩ rfl rfl rfl rfl rfl (k_failsE hH2 (by omega) (fun hp22 hH22 V22 => ⟨_, rfl, ?_⟩))
    refine xif_eq 28 ⟨u295, _, rfl⟩ rfl (fun c25 => ?_) (fun c25 => ?_)
    · have g2 : gTm t.toInt = 0 := by unfold gTm; rw [if_pos (by omega)]
      obtain ⟨Hq, Pq, Sq, Fq, sq⟩ : bHk 84 bTT hp22 ∧ P0 hp22 ∧ rfS hp22 (V, T, ty) n h sv ∧ bFr [(66, 7)] hp hp22 ∧ rN hp22 66 7 = 0 := by
        rcases V22 with ⟨a, e⟩ | ⟨a, U⟩
        · subst e
          exact ⟨hH2, P2, S2, F2, U2.1.trans h1⟩
        · exfalso; omega
      have hHq := Hq
      refine xald 31 ⟨u295, _, rfl⟩ rfl rfl ?_
      refine xcall 34 [.ref 66] [] Hq ⟨u295, _, rfl⟩ rfl rfl rfl rfl rfl (k_rmS hHq Pq Sq (fun hp31 hH31 P31 F31 S31 => ⟨_, rfl, ?_⟩))
      refine xcst 35 (0) ⟨u295, _, rfl⟩ rfl (by decide) (fun z34 h34 => ?_)
      refine xist 36 ⟨u295, _, rfl⟩ rfl rfl ?_
      refine xpad 1 ?_
      exact l295E (m := t.toInt.toNat) (by omega) (by omega) (fun z hp1 k1 k2 k3 k4 k5 => hR z hp1 k1 k2 ((bFr_sub Fq (by decide)).trans ((bFr_sub F31 (by decide)).trans (bFr_sub k3 (by decide)))) (by rw [show rN hp1 66 7 = rN hp31 66 7 from r_fr k3 rfl, show rN hp31 66 7 = rN hp22 66 7 from r_fr F31 rfl, g2]; exact sq) (Or.inr ⟨g2, k4, k5⟩)) t.toInt.toNat 0 T ty _ _ hp31 h34 (by omega) rfl hH31 P31 (bFr.refl _ _) S31
    · refine xcst 29 (0) ⟨u295, _, rfl⟩ rfl (by decide) (fun z28 h28 => ?_)
      rcases V22 with ⟨a, e⟩ | ⟨a, U⟩
      · exfalso; omega
      · have g : gTm t.toInt = 1 := by unfold gTm; rw [if_neg (by omega)]
        have FU : bFr [(66, 7)] hp2 hp22 := rU_fr U (by decide)
        exact xret ⟨u295, _, rfl⟩ rfl (hR _ hp22 hH22 (P0_W (W := [(66, 7)]) (by decide) FU P2) ((bFr_sub F2 (by decide)).trans (bFr_sub FU (by decide))) (by rw [g, U.1]; exact h21) (Or.inl ⟨by omega, rfS_W S2 FU (fun _ => rfl) rfl rfl (fun _ => rfl) (fun _ => rfl)⟩))
