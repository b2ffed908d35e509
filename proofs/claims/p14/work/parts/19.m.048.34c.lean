/-! ##### 19.m.048.34c ##### -/
section
/-! ===== the class gathers its quadrilaterals ===== -/
theorem nmF_lt {T : sT} {m : Nat} : ∀ (f k : Nat), nmF T m k f = -1 ∨ ∃ t : Nat, k ≤ t ∧ t < k + f ∧ nmF T m k f = (t : Int)
  | 0, k => Or.inl rfl
  | f + 1, k => by
    unfold nmF
    split
    · exact Or.inr ⟨k, Nat.le_refl _, by omega, rfl⟩
    · rcases nmF_lt f (k + 1) with g | ⟨t, t1, t2, t3⟩
      · exact Or.inl g
      · exact Or.inr ⟨t, by omega, by omega, t3⟩
theorem nm_lt {T : sT} (m : Nat) : nmT T m = -1 ∨ ∃ t : Nat, t < (trL T 225).length ∧ nmT T m = (t : Int) := by
  rcases nmF_lt (T := T) (m := m) (trL T 225).length 0 with g | ⟨t, -, t2, t3⟩
  · exact Or.inl g
  · exact Or.inr ⟨t, by omega, t3⟩
theorem qdN_to {hp : amH} {T : sT} {n m : Nat} (h : qdN hp T n) (e : fL (qdB T) m = fL (qdB T) n) : qdN hp T m := by
  unfold qdN
  rw [e]
  exact h
theorem qd_no {T : sT} {n : Nat} (h : n / 35 / 35 = n / 1225 → ¬ (n / 1225 < n / 35 % 35 ∧ n / 35 % 35 < n % 35 ∧ n % 35 < (trL T 225).length)) : ¬ qdB T n = true := fun z => by
  have := of_decide_eq_true z
  exact h (by rw [Nat.div_div_eq_div_mul]) ⟨this.1, this.2.1, this.2.2.1⟩
theorem l57k {d i j V : Nat} {T : sT} {hp0 : amH} {R : xQ} {wi wj wm w2 : Int32} (hB0 : bdOk hp0 3 V T) (hL0 : lsN hp0 3 T 225) (H105 : (fL (qdB T) 42875).length ≤ 105) (hwi : wi.toInt = (i : Int)) (hwj : wj.toInt = (j : Int)) (hij : i < j) (hjl : j < (trL T 225).length) (hwm : wm.toInt = 1) (hw2 : w2.toInt = ((mN T i ^^^ mN T j : Nat) : Int)) (hmt : ¬ mN T i &&& mN T j = 0)
    (hQ : ∀ hp (wk : Int32) (v7 v8 : Option Value), bHk 84 bTT hp → bFx [49, 50, 51] hp0 hp → qdN hp T (1225 * i + 35 * (j + 1)) → xV (d + 4) am_m57 149 [some (.ref 49), some (.ref 3), some (.int wi), some (.int wj), some (.int wm), some (.int w2), some (.int wk), v7, v8] [] hp R) :
    ∀ (jj k : Nat) (wk : Int32) (hp : amH) (v7 v8 : Option Value), wk.toInt = (k : Int) → j < k → k + jj = (trL T 225).length → bHk 84 bTT hp → bFx [49, 50, 51] hp0 hp → qdN hp T (1225 * i + 35 * j + k) → xV (d + 4) am_m57 66 [some (.ref 49), some (.ref 3), some (.int wi), some (.int wj), some (.int wm), some (.int w2), some (.int wk), v7, v8] [] hp R := by
  intro jj
  induction jj with
  | zero =>
    intro k wk hp v7 v8 hwk hjk hk hH hF hN
    have hB : bdOk hp 3 V T := bdOk_fr hB0 (bFx_n hF (by simp)) (fun _ => bFx_n hF (by simp)) (fun _ => bFx_n hF (by simp))
    have hL : lsN hp 3 T 225 := lsN_fr hL0 (bFx_n hF (by simp)) (fun _ => bFx_n hF (by simp)) (fun _ => bFx_n hF (by simp))
    have L1 := hL.1
    have l35 := trL_35 hB.2.1 225
    refine xild2 68 ⟨u57, _, rfl⟩ rfl rfl ?_
    refine xald 69 ⟨u57, _, rfl⟩ rfl rfl ?_
    refine xgetC 72 hH ⟨u57, _, rfl⟩ rfl (by decide) (by decide) rfl rfl (by decide) (fun z69 h69 => ?_)
    refine xcmp_ge 75 ⟨u57, _, rfl⟩ rfl (fun c72 => ?_) (fun c72 => ?_)
    · refine hQ hp _ _ _ hH hF (qdN_to hN (fL_no (by omega) (fun c c1 c2 => qd_no (by omega))))
    · omega
  | succ jj ih =>
    intro k wk hp v7 v8 hwk hjk hk hH hF hN
    have hB : bdOk hp 3 V T := bdOk_fr hB0 (bFx_n hF (by simp)) (fun _ => bFx_n hF (by simp)) (fun _ => bFx_n hF (by simp))
    have hL : lsN hp 3 T 225 := lsN_fr hL0 (bFx_n hF (by simp)) (fun _ => bFx_n hF (by simp)) (fun _ => bFx_n hF (by simp))
    have L1 := hL.1
    have l35 := trL_35 hB.2.1 225
    have mi := mN_lt hB.2.1 (show i < (trL T 225).length by omega)
    have mj := mN_lt hB.2.1 (show j < (trL T 225).length by omega)
    have mk := mN_lt hB.2.1 (show k < (trL T 225).length by omega)
    have x2 : mN T i ^^^ mN T j < 32768 := Nat.xor_lt_two_pow (n := 15) (by omega) (by omega)
    have hn : qR T (1225 * i + 35 * j + k) = mN T i ^^^ mN T j ^^^ mN T k := by
      unfold qR
      rw [show (1225 * i + 35 * j + k) / 1225 = i by omega, show (1225 * i + 35 * j + k) / 35 % 35 = j by omega, show (1225 * i + 35 * j + k) % 35 = k by omega]
    have hqd : qdB T (1225 * i + 35 * j + k) = true ↔ (k : Int) < nmT T (mN T i ^^^ mN T j ^^^ mN T k) := by
      unfold qdB
      rw [decide_eq_true_iff, hn, show (1225 * i + 35 * j + k) / 1225 = i by omega, show (1225 * i + 35 * j + k) / 35 % 35 = j by omega, show (1225 * i + 35 * j + k) % 35 = k by omega]
      exact ⟨fun z => z.2.2.2.2, fun z => ⟨hij, hjk, by omega, hmt, z⟩⟩
    refine xild2 68 ⟨u57, _, rfl⟩ rfl rfl ?_
    refine xald 69 ⟨u57, _, rfl⟩ rfl rfl ?_
    refine xgetC 72 hH ⟨u57, _, rfl⟩ rfl (by decide) (by decide) rfl rfl (by decide) (fun z69 h69 => ?_)
    refine xcmp_ge 75 ⟨u57, _, rfl⟩ rfl (fun c72 => ?_) (fun c72 => ?_)
    · omega
    · refine xild2 77 ⟨u57, _, rfl⟩ rfl rfl ?_
      refine xif_eq 80 ⟨u57, _, rfl⟩ rfl (fun c77 => ?_) (fun c77 => ?_)
      · omega
      · refine xild2 82 ⟨u57, _, rfl⟩ rfl rfl ?_
        refine xald 83 ⟨u57, _, rfl⟩ rfl rfl ?_
        refine xild2 85 ⟨u57, _, rfl⟩ rfl rfl ?_
        refine xcallC 88 (o := 3) [.int _] [.int _] hH ⟨u57, _, rfl⟩ rfl rfl (by decide) rfl (by decide) rfl ⟨rfl, rfl, rfl, rfl⟩ rfl (k_setL hH hL (t := k) (by omega) (by omega) (fun z85 h85 => ⟨_, rfl, ?_⟩))
        refine xxor 89 ⟨u57, _, rfl⟩ rfl ?_
        refine xist2 91 ⟨u57, _, rfl⟩ rfl rfl ?_
        have w88 := i_xor hw2 h85 x2 mk.1
        refine xild2 93 ⟨u57, _, rfl⟩ rfl rfl ?_
        refine xcallS 96 [.int _] [] hH ⟨u57, _, rfl⟩ rfl rfl rfl rfl rfl (k_bc w88.1 (fun z93 h93 => ⟨_, rfl, ?_⟩))
        refine xcst 97 (3) ⟨u57, _, rfl⟩ rfl (by decide) (fun z96 h96 => ?_)
        refine xcmp_ne 100 ⟨u57, _, rfl⟩ rfl (fun c97 => ?_) (fun c97 => ?_)
        · have hneg : nmT T (mN T i ^^^ mN T j ^^^ mN T k) = -1 := nm_neg hB.2.1 (fun x y z y1 y2 y3 y4 => by
            obtain ⟨w, ew, w1, w2, w3, -⟩ := sOk_at hB.2.1 y4 (by omega)
            have hV := hB.2.1.2.1
            have e9 : bcN (m3 x y z) = 3 := bc_m3 ⟨x, by omega⟩ ⟨y, by omega⟩ ⟨z, by omega⟩ y1 y2
            rw [← y3] at e9
            omega)
          refine xcst 110 (-1) ⟨u57, _, rfl⟩ rfl (by decide) (fun z109 h109 => ?_)
          refine xist2 112 ⟨u57, _, rfl⟩ rfl rfl ?_
          refine xild2 114 ⟨u57, _, rfl⟩ rfl rfl ?_
          refine xild2 116 ⟨u57, _, rfl⟩ rfl rfl ?_
          refine xcmp_le 119 ⟨u57, _, rfl⟩ rfl (fun c116 => ?_) (fun c116 => ?_)
          · refine xinc 146 (1) ⟨u57, _, rfl⟩ rfl rfl rfl (by decide) (by omega) (by omega) (fun z143 h143 => ?_)
            refine xgoto ⟨u57, _, rfl⟩ ?_
            exact ih (k + 1) _ hp _ _ (by omega) (by omega) (by omega) hH hF (qdN_to hN (fL_skip (fun z => by have := hqd.mp z; omega)))
          · omega
        · obtain ⟨a, b, c, -, -, q1, q2, q3, er⟩ := b3_s w88.1 w88.2 (by rw [bc_of w88.1]; omega)
          have pts : ∀ p, (p = a ∨ p = b ∨ p = c) → p < V := fun p hp => by
            have t : (mN T i ^^^ mN T j ^^^ mN T k).testBit p = true := by rw [er, m3_test]; exact decide_eq_true hp
            rw [Nat.testBit_xor, Nat.testBit_xor] at t
            cases h1 : (mN T i).testBit p with
            | true => exact mi.2 p h1
            | false =>
              cases h2 : (mN T j).testBit p with
              | true => exact mj.2 p h2
              | false =>
                cases h3 : (mN T k).testBit p with
                | true => exact mk.2 p h3
                | false => rw [h1, h2, h3] at t; cases t
          have pa := pts a (Or.inl rfl)
          have pb := pts b (Or.inr (Or.inl rfl))
          have pc := pts c (Or.inr (Or.inr rfl))
          refine xald 101 ⟨u57, _, rfl⟩ rfl rfl ?_
          refine xild2 103 ⟨u57, _, rfl⟩ rfl rfl ?_
          refine xcallC 106 (o := 3) [.int _] [] hH ⟨u57, _, rfl⟩ rfl rfl (by decide) rfl (by decide) rfl ⟨rfl, rfl, rfl, rfl⟩ rfl (k_nof (o := 3) (Or.inl rfl) hH hB hL (a := a) (b := b) (c := c) (by rw [w88.1, er]) pa pb pc (by omega) (by omega) (by omega) (fun z103 h103 => ⟨_, rfl, ?_⟩))
          rw [← er] at h103
          refine xgoto ⟨u57, _, rfl⟩ ?_
          refine xist2 112 ⟨u57, _, rfl⟩ rfl rfl ?_
          refine xild2 114 ⟨u57, _, rfl⟩ rfl rfl ?_
          refine xild2 116 ⟨u57, _, rfl⟩ rfl rfl ?_
          refine xcmp_le 119 ⟨u57, _, rfl⟩ rfl (fun c116 => ?_) (fun c116 => ?_)
          · refine xinc 146 (1) ⟨u57, _, rfl⟩ rfl rfl rfl (by decide) (by omega) (by omega) (fun z143 h143 => ?_)
            refine xgoto ⟨u57, _, rfl⟩ ?_
            exact ih (k + 1) _ hp _ _ (by omega) (by omega) (by omega) hH hF (qdN_to hN (fL_skip (fun z => by have := hqd.mp z; omega)))
          · obtain ⟨l, l1, el⟩ : ∃ t : Nat, t < (trL T 225).length ∧ nmT T (mN T i ^^^ mN T j ^^^ mN T k) = (t : Int) := by
              rcases nm_lt (T := T) (mN T i ^^^ mN T j ^^^ mN T k) with g | g
              · omega
              · exact g
            have hl : Int32.toInt z103 = (l : Int) := by omega
            have qb : qdB T (1225 * i + 35 * j + k) = true := hqd.mpr (by omega)
            have hm5 : (fL (qdB T) (1225 * i + 35 * j + k + 1)).length ≤ 105 := Nat.le_trans (fL_le (by omega)) H105
            refine xald 120 ⟨u57, _, rfl⟩ rfl rfl ?_
            refine xild 121 ⟨u57, _, rfl⟩ rfl rfl ?_
            refine xild 122 ⟨u57, _, rfl⟩ rfl rfl ?_
            refine xild2 124 ⟨u57, _, rfl⟩ rfl rfl ?_
            refine xild2 126 ⟨u57, _, rfl⟩ rfl rfl ?_
            refine xald 127 ⟨u57, _, rfl⟩ rfl rfl ?_
            refine xild 128 ⟨u57, _, rfl⟩ rfl rfl ?_
            refine xcallC 131 (o := 3) [.int _] [.int _, .int _, .int _, .int _, .ref 49] hH ⟨u57, _, rfl⟩ rfl rfl (by decide) rfl (by decide) rfl ⟨rfl, rfl, rfl, rfl⟩ rfl (k_setL hH hL (t := i) (by omega) (by omega) (fun z128 h128 => ⟨_, rfl, ?_⟩))
            refine xald 132 ⟨u57, _, rfl⟩ rfl rfl ?_
            refine xild 133 ⟨u57, _, rfl⟩ rfl rfl ?_
            refine xcallC 136 (o := 3) [.int _] [.int _, .int _, .int _, .int _, .int _, .ref 49] hH ⟨u57, _, rfl⟩ rfl rfl (by decide) rfl (by decide) rfl ⟨rfl, rfl, rfl, rfl⟩ rfl (k_setL hH hL (t := j) (by omega) (by omega) (fun z133 h133 => ⟨_, rfl, ?_⟩))
            refine xor_ 137 ⟨u57, _, rfl⟩ rfl ?_
            refine xild2 139 ⟨u57, _, rfl⟩ rfl rfl ?_
            refine xor_ 140 ⟨u57, _, rfl⟩ rfl ?_
            have u1 := i_or h128 h133 mi.1 mj.1
            have w139 := (i_or u1.1 w88.1 u1.2 w88.2).1
            rw [← hn] at w139
            refine xcallC 143 (o := 49) [.int _, .int _, .int _, .int _, .int _] [] hH ⟨u57, _, rfl⟩ rfl rfl (by decide) rfl (by decide) rfl ⟨rfl, rfl, rfl, rfl⟩ rfl (k_kpq hH hN qb hm5 hwi hwj hwk (l := l) hl (u := mN T i ||| mN T j ||| qR T (1225 * i + 35 * j + k)) w139 (by omega) (by omega) (by omega) (by rw [hn]; exact el) rfl (by omega) (by omega) (fun hp140 hH140 F140 Q140 => ⟨_, rfl, ?_⟩))
            refine xinc 146 (1) ⟨u57, _, rfl⟩ rfl rfl rfl (by decide) (by omega) (by omega) (fun z143 h143 => ?_)
            refine xgoto ⟨u57, _, rfl⟩ ?_
            exact ih (k + 1) _ hp140 _ _ (by omega) (by omega) (by omega) hH140 (hF.trans F140) Q140
theorem l57z {d i j V : Nat} {T : sT} {hp0 : amH} {R : xQ} {wi wj wm w2 : Int32} (hB0 : bdOk hp0 3 V T) (hL0 : lsN hp0 3 T 225) (H105 : (fL (qdB T) 42875).length ≤ 105) (hwi : wi.toInt = (i : Int)) (hwj : wj.toInt = (j : Int)) (hij : i < j) (hjl : j < (trL T 225).length) (hwm : wm.toInt = 0) (hmt : mN T i &&& mN T j = 0)
    (hQ : ∀ hp (wk : Int32) (v7 v8 : Option Value), bHk 84 bTT hp → bFx [49, 50, 51] hp0 hp → qdN hp T (1225 * i + 35 * (j + 1)) → xV (d + 4) am_m57 149 [some (.ref 49), some (.ref 3), some (.int wi), some (.int wj), some (.int wm), some (.int w2), some (.int wk), v7, v8] [] hp R) :
    ∀ (wk : Int32) (hp : amH) (v7 v8 : Option Value), wk.toInt = (j : Int) + 1 → bHk 84 bTT hp → bFx [49, 50, 51] hp0 hp → qdN hp T (1225 * i + 35 * j) → xV (d + 4) am_m57 66 [some (.ref 49), some (.ref 3), some (.int wi), some (.int wj), some (.int wm), some (.int w2), some (.int wk), v7, v8] [] hp R := by
  intro wk hp v7 v8 hwk hH hF hN
  have hB : bdOk hp 3 V T := bdOk_fr hB0 (bFx_n hF (by simp)) (fun _ => bFx_n hF (by simp)) (fun _ => bFx_n hF (by simp))
  have hL : lsN hp 3 T 225 := lsN_fr hL0 (bFx_n hF (by simp)) (fun _ => bFx_n hF (by simp)) (fun _ => bFx_n hF (by simp))
  have L1 := hL.1
  have l35 := trL_35 hB.2.1 225
  refine xild2 68 ⟨u57, _, rfl⟩ rfl rfl ?_
  refine xald 69 ⟨u57, _, rfl⟩ rfl rfl ?_
  refine xgetC 72 hH ⟨u57, _, rfl⟩ rfl (by decide) (by decide) rfl rfl (by decide) (fun z69 h69 => ?_)
  refine xcmp_ge 75 ⟨u57, _, rfl⟩ rfl (fun c72 => ?_) (fun c72 => ?_)
  · exact hQ hp _ _ _ hH hF (qdN_to hN (fL_no (by omega) (fun c c1 c2 => fun z => by
      have z := of_decide_eq_true z
      rw [show c / 1225 = i by omega, show c / 35 % 35 = j by omega] at z
      exact z.2.2.2.1 hmt)))
  · refine xild2 77 ⟨u57, _, rfl⟩ rfl rfl ?_
    refine xif_eq 80 ⟨u57, _, rfl⟩ rfl (fun c77 => ?_) (fun c77 => ?_)
    · exact hQ hp _ _ _ hH hF (qdN_to hN (fL_no (by omega) (fun c c1 c2 => fun z => by
        have z := of_decide_eq_true z
        rw [show c / 1225 = i by omega, show c / 35 % 35 = j by omega] at z
        exact z.2.2.2.1 hmt)))
    · omega
theorem l57j {d i V : Nat} {T : sT} {hp0 : amH} {R : xQ} {wi : Int32} (hB0 : bdOk hp0 3 V T) (hL0 : lsN hp0 3 T 225) (H105 : (fL (qdB T) 42875).length ≤ 105) (hwi : wi.toInt = (i : Int)) (hil : i < (trL T 225).length)
    (hQ : ∀ hp (wj : Int32) (v4 v5 v6 v7 v8 : Option Value), bHk 84 bTT hp → bFx [49, 50, 51] hp0 hp → qdN hp T (1225 * (i + 1)) → xV (d + 4) am_m57 155 [some (.ref 49), some (.ref 3), some (.int wi), some (.int wj), v4, v5, v6, v7, v8] [] hp R) :
    ∀ (jj j : Nat) (wj : Int32) (hp : amH) (v4 v5 v6 v7 v8 : Option Value), wj.toInt = (j : Int) → i < j → j + jj = (trL T 225).length → bHk 84 bTT hp → bFx [49, 50, 51] hp0 hp → qdN hp T (1225 * i + 35 * j) → xV (d + 4) am_m57 19 [some (.ref 49), some (.ref 3), some (.int wi), some (.int wj), v4, v5, v6, v7, v8] [] hp R := by
  intro jj
  induction jj with
  | zero =>
    intro j wj hp v4 v5 v6 v7 v8 hwj hij hj hH hF hN
    have hB : bdOk hp 3 V T := bdOk_fr hB0 (bFx_n hF (by simp)) (fun _ => bFx_n hF (by simp)) (fun _ => bFx_n hF (by simp))
    have hL : lsN hp 3 T 225 := lsN_fr hL0 (bFx_n hF (by simp)) (fun _ => bFx_n hF (by simp)) (fun _ => bFx_n hF (by simp))
    have L1 := hL.1
    have l35 := trL_35 hB.2.1 225
    refine xild 20 ⟨u57, _, rfl⟩ rfl rfl ?_
    refine xald 21 ⟨u57, _, rfl⟩ rfl rfl ?_
    refine xgetC 24 hH ⟨u57, _, rfl⟩ rfl (by decide) (by decide) rfl rfl (by decide) (fun z21 h21 => ?_)
    refine xcmp_ge 27 ⟨u57, _, rfl⟩ rfl (fun c24 => ?_) (fun c24 => ?_)
    · exact hQ hp _ _ _ _ _ _ hH hF (qdN_to hN (fL_no (by omega) (fun c c1 c2 => qd_no (by omega))))
    · omega
  | succ jj ih =>
    intro j wj hp v4 v5 v6 v7 v8 hwj hij hj hH hF hN
    have hB : bdOk hp 3 V T := bdOk_fr hB0 (bFx_n hF (by simp)) (fun _ => bFx_n hF (by simp)) (fun _ => bFx_n hF (by simp))
    have hL : lsN hp 3 T 225 := lsN_fr hL0 (bFx_n hF (by simp)) (fun _ => bFx_n hF (by simp)) (fun _ => bFx_n hF (by simp))
    have L1 := hL.1
    have l35 := trL_35 hB.2.1 225
    have mi := mN_lt hB.2.1 (show i < (trL T 225).length by omega)
    have mj := mN_lt hB.2.1 (show j < (trL T 225).length by omega)
    refine xild 20 ⟨u57, _, rfl⟩ rfl rfl ?_
    refine xald 21 ⟨u57, _, rfl⟩ rfl rfl ?_
    refine xgetC 24 hH ⟨u57, _, rfl⟩ rfl (by decide) (by decide) rfl rfl (by decide) (fun z21 h21 => ?_)
    refine xcmp_ge 27 ⟨u57, _, rfl⟩ rfl (fun c24 => ?_) (fun c24 => ?_)
    · omega
    · refine xald 28 ⟨u57, _, rfl⟩ rfl rfl ?_
      refine xild 29 ⟨u57, _, rfl⟩ rfl rfl ?_
      refine xcallC 32 (o := 3) [.int _] [] hH ⟨u57, _, rfl⟩ rfl rfl (by decide) rfl (by decide) rfl ⟨rfl, rfl, rfl, rfl⟩ rfl (k_setL hH hL (t := i) (by omega) (by omega) (fun z29 h29 => ⟨_, rfl, ?_⟩))
      refine xald 33 ⟨u57, _, rfl⟩ rfl rfl ?_
      refine xild 34 ⟨u57, _, rfl⟩ rfl rfl ?_
      refine xcallC 37 (o := 3) [.int _] [.int _] hH ⟨u57, _, rfl⟩ rfl rfl (by decide) rfl (by decide) rfl ⟨rfl, rfl, rfl, rfl⟩ rfl (k_setL hH hL (t := j) (by omega) (by omega) (fun z34 h34 => ⟨_, rfl, ?_⟩))
      refine xand 38 ⟨u57, _, rfl⟩ rfl ?_
      refine xif_eq 41 ⟨u57, _, rfl⟩ rfl (fun c38 => ?_) (fun c38 => ?_)
      · have w37 := (i_and h29 h34 mi.1).1
        refine xcst 46 (0) ⟨u57, _, rfl⟩ rfl (by decide) (fun z45 h45 => ?_)
        refine xist2 48 ⟨u57, _, rfl⟩ rfl rfl ?_
        refine xald 49 ⟨u57, _, rfl⟩ rfl rfl ?_
        refine xild 50 ⟨u57, _, rfl⟩ rfl rfl ?_
        refine xcallC 53 (o := 3) [.int _] [] hH ⟨u57, _, rfl⟩ rfl rfl (by decide) rfl (by decide) rfl ⟨rfl, rfl, rfl, rfl⟩ rfl (k_setL hH hL (t := i) (by omega) (by omega) (fun z50 h50 => ⟨_, rfl, ?_⟩))
        refine xald 54 ⟨u57, _, rfl⟩ rfl rfl ?_
        refine xild 55 ⟨u57, _, rfl⟩ rfl rfl ?_
        refine xcallC 58 (o := 3) [.int _] [.int _] hH ⟨u57, _, rfl⟩ rfl rfl (by decide) rfl (by decide) rfl ⟨rfl, rfl, rfl, rfl⟩ rfl (k_setL hH hL (t := j) (by omega) (by omega) (fun z55 h55 => ⟨_, rfl, ?_⟩))
        refine xxor 59 ⟨u57, _, rfl⟩ rfl ?_
        refine xist2 61 ⟨u57, _, rfl⟩ rfl rfl ?_
        refine xild 62 ⟨u57, _, rfl⟩ rfl rfl ?_
        refine xcst 63 (1) ⟨u57, _, rfl⟩ rfl (by decide) (fun z62 h62 => ?_)
        refine xadd 64 _ ⟨u57, _, rfl⟩ rfl rfl (by omega) (by omega) (fun z63 h63 => ?_)
        refine xist2 66 ⟨u57, _, rfl⟩ rfl rfl ?_
        have w58 := (i_xor h50 h55 mi.1 mj.1).1
        refine l57z hB0 hL0 H105 hwi hwj hij (by omega) h45 (by omega) (fun hp1 wk1 v71 v81 k1 k2 k3 => ?_) _ hp _ _ (by omega) hH hF hN
        refine xinc 152 (1) ⟨u57, _, rfl⟩ rfl rfl rfl (by decide) (by omega) (by omega) (fun z149 h149 => ?_)
        refine xgoto ⟨u57, _, rfl⟩ ?_
        exact ih (j + 1) _ hp1 _ _ _ _ _ (by omega) (by omega) (by omega) k1 k2 k3
      · have w37 := (i_and h29 h34 mi.1).1
        refine xcst 42 (1) ⟨u57, _, rfl⟩ rfl (by decide) (fun z41 h41 => ?_)
        refine xgoto ⟨u57, _, rfl⟩ ?_
        refine xist2 48 ⟨u57, _, rfl⟩ rfl rfl ?_
        refine xald 49 ⟨u57, _, rfl⟩ rfl rfl ?_
        refine xild 50 ⟨u57, _, rfl⟩ rfl rfl ?_
        refine xcallC 53 (o := 3) [.int _] [] hH ⟨u57, _, rfl⟩ rfl rfl (by decide) rfl (by decide) rfl ⟨rfl, rfl, rfl, rfl⟩ rfl (k_setL hH hL (t := i) (by omega) (by omega) (fun z50 h50 => ⟨_, rfl, ?_⟩))
        refine xald 54 ⟨u57, _, rfl⟩ rfl rfl ?_
        refine xild 55 ⟨u57, _, rfl⟩ rfl rfl ?_
        refine xcallC 58 (o := 3) [.int _] [.int _] hH ⟨u57, _, rfl⟩ rfl rfl (by decide) rfl (by decide) rfl ⟨rfl, rfl, rfl, rfl⟩ rfl (k_setL hH hL (t := j) (by omega) (by omega) (fun z55 h55 => ⟨_, rfl, ?_⟩))
        refine xxor 59 ⟨u57, _, rfl⟩ rfl ?_
        refine xist2 61 ⟨u57, _, rfl⟩ rfl rfl ?_
        refine xild 62 ⟨u57, _, rfl⟩ rfl rfl ?_
        refine xcst 63 (1) ⟨u57, _, rfl⟩ rfl (by decide) (fun z62 h62 => ?_)
        refine xadd 64 _ ⟨u57, _, rfl⟩ rfl rfl (by omega) (by omega) (fun z63 h63 => ?_)
        refine xist2 66 ⟨u57, _, rfl⟩ rfl rfl ?_
        have w58 := (i_xor h50 h55 mi.1 mj.1).1
        refine l57k hB0 hL0 H105 hwi hwj hij (by omega) h41 w58 (by omega) (fun hp1 wk1 v71 v81 k1 k2 k3 => ?_) ((trL T 225).length - (j + 1)) (j + 1) _ hp _ _ (by omega) (by omega) (by omega) hH hF (qdN_to hN (fL_no (by omega) (fun c c1 c2 => qd_no (by omega))))
        refine xinc 152 (1) ⟨u57, _, rfl⟩ rfl rfl rfl (by decide) (by omega) (by omega) (fun z149 h149 => ?_)
        refine xgoto ⟨u57, _, rfl⟩ ?_
        exact ih (j + 1) _ hp1 _ _ _ _ _ (by omega) (by omega) (by omega) k1 k2 k3
theorem l57i {d V : Nat} {T : sT} {hp0 : amH} {R : xQ} (hB0 : bdOk hp0 3 V T) (hL0 : lsN hp0 3 T 225) (H105 : (fL (qdB T) 42875).length ≤ 105) (hR : ∀ hp1, bHk 84 bTT hp1 → bFx [49, 50, 51] hp0 hp1 → qdN hp1 T 42875 → R (.inl none) hp1) :
    ∀ (ii i : Nat) (wi : Int32) (hp : amH) (v3 v4 v5 v6 v7 v8 : Option Value), wi.toInt = (i : Int) → i + ii = (trL T 225).length → bHk 84 bTT hp → bFx [49, 50, 51] hp0 hp → qdN hp T (1225 * i) → xV (d + 4) am_m57 7 [some (.ref 49), some (.ref 3), some (.int wi), v3, v4, v5, v6, v7, v8] [] hp R := by
  intro ii
  induction ii with
  | zero =>
    intro i wi hp v3 v4 v5 v6 v7 v8 hwi hi hH hF hN
    have hB : bdOk hp 3 V T := bdOk_fr hB0 (bFx_n hF (by simp)) (fun _ => bFx_n hF (by simp)) (fun _ => bFx_n hF (by simp))
    have hL : lsN hp 3 T 225 := lsN_fr hL0 (bFx_n hF (by simp)) (fun _ => bFx_n hF (by simp)) (fun _ => bFx_n hF (by simp))
    have L1 := hL.1
    have l35 := trL_35 hB.2.1 225
    refine xild 8 ⟨u57, _, rfl⟩ rfl rfl ?_
    refine xald 9 ⟨u57, _, rfl⟩ rfl rfl ?_
    refine xgetC 12 hH ⟨u57, _, rfl⟩ rfl (by decide) (by decide) rfl rfl (by decide) (fun z9 h9 => ?_)
    refine xcmp_ge 15 ⟨u57, _, rfl⟩ rfl (fun c12 => ?_) (fun c12 => ?_)
    · exact xretV ⟨u57, _, rfl⟩ rfl (hR hp hH hF (qdN_to hN (fL_no (by omega) (fun c c1 c2 => qd_no (by omega)))))
    · omega
  | succ ii ih =>
    intro i wi hp v3 v4 v5 v6 v7 v8 hwi hi hH hF hN
    have hB : bdOk hp 3 V T := bdOk_fr hB0 (bFx_n hF (by simp)) (fun _ => bFx_n hF (by simp)) (fun _ => bFx_n hF (by simp))
    have hL : lsN hp 3 T 225 := lsN_fr hL0 (bFx_n hF (by simp)) (fun _ => bFx_n hF (by simp)) (fun _ => bFx_n hF (by simp))
    have L1 := hL.1
    have l35 := trL_35 hB.2.1 225
    refine xild 8 ⟨u57, _, rfl⟩ rfl rfl ?_
    refine xald 9 ⟨u57, _, rfl⟩ rfl rfl ?_
    refine xgetC 12 hH ⟨u57, _, rfl⟩ rfl (by decide) (by decide) rfl rfl (by decide) (fun z9 h9 => ?_)
    refine xcmp_ge 15 ⟨u57, _, rfl⟩ rfl (fun c12 => ?_) (fun c12 => ?_)
    · omega
    · refine xild 16 ⟨u57, _, rfl⟩ rfl rfl ?_
      refine xcst 17 (1) ⟨u57, _, rfl⟩ rfl (by decide) (fun z16 h16 => ?_)
      refine xadd 18 _ ⟨u57, _, rfl⟩ rfl rfl (by omega) (by omega) (fun z17 h17 => ?_)
      refine xist 19 ⟨u57, _, rfl⟩ rfl rfl ?_
      refine l57j hB0 hL0 H105 hwi (by omega) (fun hp1 wj1 v41 v51 v61 v71 v81 k1 k2 k3 => ?_) ((trL T 225).length - (i + 1)) (i + 1) _ hp _ _ _ _ _ (by omega) (by omega) (by omega) hH hF (qdN_to hN (fL_no (by omega) (fun c c1 c2 => qd_no (by omega))))
      refine xinc 158 (1) ⟨u57, _, rfl⟩ rfl rfl rfl (by decide) (by omega) (by omega) (fun z155 h155 => ?_)
      refine xgoto ⟨u57, _, rfl⟩ ?_
      exact ih (i + 1) _ hp1 _ _ _ _ _ _ (by omega) (by omega) k1 k2 k3
theorem k_gath {d V : Nat} {T : sT} {hp : amH} {R : xQ} (hH : bHk 84 bTT hp) (hB : bdOk hp 3 V T) (hL : lsN hp 3 T 225) (H105 : (fL (qdB T) 42875).length ≤ 105) (hR : ∀ hp1, bHk 84 bTT hp1 → bFx [49, 50, 51] hp hp1 → qdN hp1 T 42875 → R (.inl none) hp1) : xK (d + 4) 57 [.ref 49, .ref 3] hp R := by
  refine xin (M := am_m57) rfl rfl rfl ?_
  refine xald 1 ⟨u57, _, rfl⟩ rfl rfl ?_
  refine xcst 2 (0) ⟨u57, _, rfl⟩ rfl (by decide) (fun z1 h1 => ?_)
  refine xputC 5 hH ⟨u57, _, rfl⟩ rfl (by decide) (by decide) rfl rfl (by decide) ⟨rfl, rfl⟩ (by omega) (by omega) (fun hp2 hH2 U2 => ?_)
  have s2 := U2.1
  refine xcst 6 (0) ⟨u57, _, rfl⟩ rfl (by decide) (fun z5 h5 => ?_)
  refine xist 7 ⟨u57, _, rfl⟩ rfl rfl ?_
  have F2 : bFx [49, 50, 51] hp hp2 := bFx_U U2 (by simp)
  refine xpad 6 ?_
  exact l57i (bdOk_fr hB (bFx_n F2 (by simp)) (fun _ => bFx_n F2 (by simp)) (fun _ => bFx_n F2 (by simp))) (lsN_fr hL (bFx_n F2 (by simp)) (fun _ => bFx_n F2 (by simp)) (fun _ => bFx_n F2 (by simp))) H105 (fun hp1 g1 g2 g3 => hR hp1 g1 (F2.trans g2) g3) (trL T 225).length 0 _ hp2 _ _ _ _ _ _ (by omega) (by omega) hH2 bFx.refl ⟨by rw [U2.1]; exact h1, fun q hq => absurd hq (Nat.not_lt_zero q)⟩
end
/-! ##### 19.m.049.34d ##### -/
section
/-! ===== the reference lays its quadrilaterals ===== -/
noncomputable def rqN (hp : amH) (T : sT) (n : Nat) : Prop := rN hp 66 14 = (((fL (qdB T) n).length : Nat) : Int) ∧ ∀ q, q < (fL (qdB T) n).length → rN hp 76 (4 * q) = (((fL (qdB T) n).getD q 0 / 1225 : Nat) : Int) ∧ rN hp 76 (4 * q + 1) = (((fL (qdB T) n).getD q 0 / 35 % 35 : Nat) : Int) ∧ rN hp 76 (4 * q + 2) = (((fL (qdB T) n).getD q 0 % 35 : Nat) : Int) ∧ rN hp 76 (4 * q + 3) = nmT T (qR T ((fL (qdB T) n).getD q 0))
theorem rqN_to {hp : amH} {T : sT} {n m : Nat} (h : rqN hp T n) (e : fL (qdB T) m = fL (qdB T) n) : rqN hp T m := by
  unfold rqN
  rw [e]
  exact h
theorem rqN_fr {hp hp1 : amH} {T : sT} {n : Nat} (h : rqN hp T n) (e : rN hp1 66 14 = rN hp 66 14) (F : ∀ i, rN hp1 76 i = rN hp 76 i) : rqN hp1 T n :=
  ⟨e.trans h.1, fun q hq => by rw [F, F, F, F]; exact h.2 q hq⟩
noncomputable def wRq : List (Nat × Nat) := [(66, 14), (76, 999)]
theorem k_adq {d n i j k l : Nat} {T : sT} {hp : amH} {R : xQ} {a b c e : Int32} (hH : bHk 84 bTT hp) (hQ : rqN hp T n) (hb : qdB T n = true) (h105 : (fL (qdB T) (n + 1)).length ≤ 105) (ha : a.toInt = (i : Int)) (hb2 : b.toInt = (j : Int)) (hc : c.toInt = (k : Int)) (he : e.toInt = (l : Int)) (hi : n / 1225 = i) (hj : n / 35 % 35 = j) (hk : n % 35 = k) (hl : nmT T (qR T n) = (l : Int)) (hi2 : i < 35) (hj2 : j < 35) (hk2 : k < 35) (hl2 : l < 35)
    (hR : ∀ hp1, bHk 84 bTT hp1 → bFr wRq hp hp1 → rqN hp1 T (n + 1) → R (.inl none) hp1) : xK d 217 [.ref 66, .int a, .int b, .int c, .int e] hp R := by
  rw [fL_add hb, List.length_append, List.length_singleton] at h105
  obtain ⟨Q1, Q2⟩ := id hQ
  refine xin (M := am_m217) rfl rfl rfl ?_
  refine xald 1 ⟨u217, _, rfl⟩ rfl rfl ?_
  refine xgetI 4 hH ⟨u217, _, rfl⟩ rfl rfl (fun z1 h1 => ?_)
  refine xsip 7 (200) ⟨u217, _, rfl⟩ rfl (by decide) (fun z4 h4 => ?_)
  refine xcmp_ne 10 ⟨u217, _, rfl⟩ rfl (fun c7 => ?_) (fun c7 => ?_)
  · refine xald 12 ⟨u217, _, rfl⟩ rfl rfl ?_
    refine xgetR 15 76 hH ⟨u217, _, rfl⟩ rfl rfl ?_
    refine xcst 16 (4) ⟨u217, _, rfl⟩ rfl (by decide) (fun z15 h15 => ?_)
    refine xald 17 ⟨u217, _, rfl⟩ rfl rfl ?_
    refine xgetI 20 hH ⟨u217, _, rfl⟩ rfl rfl (fun z17 h17 => ?_)
    refine xmul 21 (4 * Int32.toInt z17) ⟨u217, _, rfl⟩ rfl (by rw [h15]) (by omega) (by omega) (fun z20 h20 => ?_)
    refine xild 22 ⟨u217, _, rfl⟩ rfl rfl ?_
    refine xiast 23 (z20).toInt.toNat hH ⟨u217, _, rfl⟩ rfl (by decide) rfl (by omega) (by omega) (by omega) (by omega) (fun hp22 hH22 U22 => ?_)
    rw [show z20.toInt.toNat = 4 * (fL (qdB T) n).length by omega] at U22
    clear h4 h15 h17 h20
    have N22 : rN hp22 (66) 14 = (((fL (qdB T) n).length : Nat) : Int) := (rU_ne U22 (by first | decide | exact (fun z => absurd z.1 (by decide)) | omega)).trans Q1
    refine xald 24 ⟨u217, _, rfl⟩ rfl rfl ?_
    refine xgetR 27 76 hH22 ⟨u217, _, rfl⟩ rfl rfl ?_
    refine xcst 28 (4) ⟨u217, _, rfl⟩ rfl (by decide) (fun z27 h27 => ?_)
    refine xald 29 ⟨u217, _, rfl⟩ rfl rfl ?_
    refine xgetI 32 hH22 ⟨u217, _, rfl⟩ rfl rfl (fun z29 h29 => ?_)
    refine xmul 33 (4 * Int32.toInt z29) ⟨u217, _, rfl⟩ rfl (by rw [h27]) (by omega) (by omega) (fun z32 h32 => ?_)
    refine xcst 34 (1) ⟨u217, _, rfl⟩ rfl (by decide) (fun z33 h33 => ?_)
    refine xadd 35 _ ⟨u217, _, rfl⟩ rfl rfl (by omega) (by omega) (fun z34 h34 => ?_)
    refine xild 36 ⟨u217, _, rfl⟩ rfl rfl ?_
    refine xiast 37 (z34).toInt.toNat hH22 ⟨u217, _, rfl⟩ rfl (by decide) rfl (by omega) (by omega) (by omega) (by omega) (fun hp36 hH36 U36 => ?_)
    rw [show z34.toInt.toNat = 4 * (fL (qdB T) n).length + 1 by omega] at U36
    clear h27 h29 h32 h33 h34
    have N36 : rN hp36 (66) 14 = (((fL (qdB T) n).length : Nat) : Int) := (rU_ne U36 (by first | decide | exact (fun z => absurd z.1 (by decide)) | omega)).trans N22
    clear N22
    refine xald 38 ⟨u217, _, rfl⟩ rfl rfl ?_
    refine xgetR 41 76 hH36 ⟨u217, _, rfl⟩ rfl rfl ?_
    refine xcst 42 (4) ⟨u217, _, rfl⟩ rfl (by decide) (fun z41 h41 => ?_)
    refine xald 43 ⟨u217, _, rfl⟩ rfl rfl ?_
    refine xgetI 46 hH36 ⟨u217, _, rfl⟩ rfl rfl (fun z43 h43 => ?_)
    refine xmul 47 (4 * Int32.toInt z43) ⟨u217, _, rfl⟩ rfl (by rw [h41]) (by omega) (by omega) (fun z46 h46 => ?_)
    refine xcst 48 (2) ⟨u217, _, rfl⟩ rfl (by decide) (fun z47 h47 => ?_)
    refine xadd 49 _ ⟨u217, _, rfl⟩ rfl rfl (by omega) (by omega) (fun z48 h48 => ?_)
    refine xild 50 ⟨u217, _, rfl⟩ rfl rfl ?_
    refine xiast 51 (z48).toInt.toNat hH36 ⟨u217, _, rfl⟩ rfl (by decide) rfl (by omega) (by omega) (by omega) (by omega) (fun hp50 hH50 U50 => ?_)
    rw [show z48.toInt.toNat = 4 * (fL (qdB T) n).length + 2 by omega] at U50
    clear h41 h43 h46 h47 h48
    have N50 : rN hp50 (66) 14 = (((fL (qdB T) n).length : Nat) : Int) := (rU_ne U50 (by first | decide | exact (fun z => absurd z.1 (by decide)) | omega)).trans N36
    clear N36
    refine xald 52 ⟨u217, _, rfl⟩ rfl rfl ?_
    refine xgetR 55 76 hH50 ⟨u217, _, rfl⟩ rfl rfl ?_
    refine xcst 56 (4) ⟨u217, _, rfl⟩ rfl (by decide) (fun z55 h55 => ?_)
    refine xald 57 ⟨u217, _, rfl⟩ rfl rfl ?_
    refine xgetI 60 hH50 ⟨u217, _, rfl⟩ rfl rfl (fun z57 h57 => ?_)
    refine xmul 61 (4 * Int32.toInt z57) ⟨u217, _, rfl⟩ rfl (by rw [h55]) (by omega) (by omega) (fun z60 h60 => ?_)
    refine xcst 62 (3) ⟨u217, _, rfl⟩ rfl (by decide) (fun z61 h61 => ?_)
    refine xadd 63 _ ⟨u217, _, rfl⟩ rfl rfl (by omega) (by omega) (fun z62 h62 => ?_)
    refine xild2 65 ⟨u217, _, rfl⟩ rfl rfl ?_
    refine xiast 66 (z62).toInt.toNat hH50 ⟨u217, _, rfl⟩ rfl (by decide) rfl (by omega) (by omega) (by omega) (by omega) (fun hp65 hH65 U65 => ?_)
    rw [show z62.toInt.toNat = 4 * (fL (qdB T) n).length + 3 by omega] at U65
    clear h55 h57 h60 h61 h62
    have N65 : rN hp65 (66) 14 = (((fL (qdB T) n).length : Nat) : Int) := (rU_ne U65 (by first | decide | exact (fun z => absurd z.1 (by decide)) | omega)).trans N50
    clear N50
    refine xald 67 ⟨u217, _, rfl⟩ rfl rfl ?_
    refine xdup 68 ⟨u217, _, rfl⟩ rfl rfl ?_
    refine xgetI 71 hH65 ⟨u217, _, rfl⟩ rfl rfl (fun z68 h68 => ?_)
    refine xcst 72 (1) ⟨u217, _, rfl⟩ rfl (by decide) (fun z71 h71 => ?_)
    refine xadd 73 _ ⟨u217, _, rfl⟩ rfl rfl (by omega) (by omega) (fun z72 h72 => ?_)
    refine xputI 76 hH65 ⟨u217, _, rfl⟩ rfl rfl ⟨rfl, rfl⟩ (by omega) (by omega) (fun hp73 hH73 U73 => ?_)
    have s73 := U73.1
    refine xretV ⟨u217, _, rfl⟩ rfl (hR hp73 hH73 (((((rU_fr U22 (bIn_all (by decide) _)).trans (rU_fr U36 (bIn_all (by decide) _))).trans (rU_fr U50 (bIn_all (by decide) _))).trans (rU_fr U65 (bIn_all (by decide) _))).trans (rU_fr U73 (by decide))) ⟨by rw [fL_add hb, List.length_append, List.length_singleton]; omega, fun q hq => ?_⟩)
    rw [fL_add hb, List.length_append, List.length_singleton] at hq
    rw [fL_add hb]
    have u22 := U22.1
    have u36 := U36.1
    have u50 := U50.1
    have u65 := U65.1
    by_cases g : q = (fL (qdB T) n).length
    · subst g
      rw [gd_end, hi, hj, hk, hl]
      refine ⟨?_, ?_, ?_, ?_⟩
      · rw [rU_ne U73 (by first | decide | exact (fun z => absurd z.1 (by decide)) | omega), rU_ne U65 (by first | decide | exact (fun z => absurd z.1 (by decide)) | omega), rU_ne U50 (by first | decide | exact (fun z => absurd z.1 (by decide)) | omega), rU_ne U36 (by first | decide | exact (fun z => absurd z.1 (by decide)) | omega), u22]; exact ha
      · rw [rU_ne U73 (by first | decide | exact (fun z => absurd z.1 (by decide)) | omega), rU_ne U65 (by first | decide | exact (fun z => absurd z.1 (by decide)) | omega), rU_ne U50 (by first | decide | exact (fun z => absurd z.1 (by decide)) | omega), u36]; exact hb2
      · rw [rU_ne U73 (by first | decide | exact (fun z => absurd z.1 (by decide)) | omega), rU_ne U65 (by first | decide | exact (fun z => absurd z.1 (by decide)) | omega), u50]; exact hc
      · rw [rU_ne U73 (by first | decide | exact (fun z => absurd z.1 (by decide)) | omega), u65]; exact he
    · rw [gd_app (by omega)]
      have k1 := Q2 q (by omega)
      have keep : ∀ i, i < 4 * (fL (qdB T) n).length → rN hp73 76 i = rN hp 76 i := fun i hi => by
        rw [rU_ne U73 (by first | decide | exact (fun z => absurd z.1 (by decide)) | omega), rU_ne U65 (by first | decide | exact (fun z => absurd z.1 (by decide)) | omega), rU_ne U50 (by first | decide | exact (fun z => absurd z.1 (by decide)) | omega), rU_ne U36 (by first | decide | exact (fun z => absurd z.1 (by decide)) | omega), rU_ne U22 (by first | decide | exact (fun z => absurd z.1 (by decide)) | omega)]
      rw [keep _ (by omega), keep _ (by omega), keep _ (by omega), keep _ (by omega)]
      exact k1
  · omega
theorem l216kE {d i j V : Nat} {T : sT} {hp0 : amH} {R : xQ} {wi wj : Int32} (hB0 : rdOk hp0 V T) (hL0 : rlN hp0 T 225) (H105 : (fL (qdB T) 42875).length ≤ 105) (hwi : wi.toInt = (i : Int)) (hwj : wj.toInt = (j : Int)) (hij : i < j) (hjl : j < (trL T 225).length) (hmt : ¬ mN T i &&& mN T j = 0)
    (hQ : ∀ hp (v3 v4 v5 : Option Value), bHk 84 bTT hp → bFr wRq hp0 hp → rqN hp T (1225 * i + 35 * (j + 1)) → xV (d + 4) am_m216 126 [some (.ref 66), some (.int wi), some (.int wj), v3, v4, v5] [] hp R) :
    ∀ (jj k : Nat) (wk : Int32) (hp : amH) (v4 v5 : Option Value), wk.toInt = (k : Int) → j < k → k + jj = (trL T 225).length → bHk 84 bTT hp → bFr wRq hp0 hp → rqN hp T (1225 * i + 35 * j + k) → xV (d + 4) am_m216 54 [some (.ref 66), some (.int wi), some (.int wj), some (.int wk), v4, v5] [] hp R := by
  intro jj
  induction jj with
  | zero =>
    intro k wk hp v4 v5 hwk hjk hk hH hF hN
    have hB : rdOk hp V T := rdOk_fr hB0 (fun _ => r_fr hF rfl)
    have hL : rlN hp T 225 := rlN_fr hL0 (r_fr hF rfl) (fun _ => r_fr hF rfl) (fun _ => r_fr hF rfl) (fun _ => r_fr hF rfl) (fun _ => r_fr hF rfl)
    have L1 := hL.1
    have l35 := trL_35 hB.2.1 225
    have LM : ∀ t, t < (trL T 225).length → rN hp 75 t = ((mN T t : Nat) : Int) := fun t ht => (hL.2 t ht).2.2.2
    refine xild 55 ⟨u216, _, rfl⟩ rfl rfl ?_
    refine xald 56 ⟨u216, _, rfl⟩ rfl rfl ?_
    refine xgetI 59 hH ⟨u216, _, rfl⟩ rfl rfl (fun z56 h56 => ?_)
    refine xcmp_ge 62 ⟨u216, _, rfl⟩ rfl (fun c59 => ?_) (fun c59 => ?_)
    · exact hQ hp _ _ _ hH hF (rqN_to hN (fL_no (by omega) (fun c c1 c2 => qd_no (by omega))))
    · omega
  | succ jj ih =>
    intro k wk hp v4 v5 hwk hjk hk hH hF hN
    have hB : rdOk hp V T := rdOk_fr hB0 (fun _ => r_fr hF rfl)
    have hL : rlN hp T 225 := rlN_fr hL0 (r_fr hF rfl) (fun _ => r_fr hF rfl) (fun _ => r_fr hF rfl) (fun _ => r_fr hF rfl) (fun _ => r_fr hF rfl)
    have L1 := hL.1
    have l35 := trL_35 hB.2.1 225
    have LM : ∀ t, t < (trL T 225).length → rN hp 75 t = ((mN T t : Nat) : Int) := fun t ht => (hL.2 t ht).2.2.2
    have mi := mN_lt hB.2.1 (show i < (trL T 225).length by omega)
    have mj := mN_lt hB.2.1 (show j < (trL T 225).length by omega)
    have mk := mN_lt hB.2.1 (show k < (trL T 225).length by omega)
    have x2 : mN T i ^^^ mN T j < 32768 := Nat.xor_lt_two_pow (n := 15) (by omega) (by omega)
    have hn : qR T (1225 * i + 35 * j + k) = mN T i ^^^ mN T j ^^^ mN T k := by
      unfold qR
      rw [show (1225 * i + 35 * j + k) / 1225 = i by omega, show (1225 * i + 35 * j + k) / 35 % 35 = j by omega, show (1225 * i + 35 * j + k) % 35 = k by omega]
    have hqd : qdB T (1225 * i + 35 * j + k) = true ↔ (k : Int) < nmT T (mN T i ^^^ mN T j ^^^ mN T k) := by
      unfold qdB
      rw [decide_eq_true_iff, hn, show (1225 * i + 35 * j + k) / 1225 = i by omega, show (1225 * i + 35 * j + k) / 35 % 35 = j by omega, show (1225 * i + 35 * j + k) % 35 = k by omega]
      exact ⟨fun z => z.2.2.2.2, fun z => ⟨hij, hjk, by omega, hmt, z⟩⟩
    refine xild 55 ⟨u216, _, rfl⟩ rfl rfl ?_
    refine xald 56 ⟨u216, _, rfl⟩ rfl rfl ?_
    refine xgetI 59 hH ⟨u216, _, rfl⟩ rfl rfl (fun z56 h56 => ?_)
    refine xcmp_ge 62 ⟨u216, _, rfl⟩ rfl (fun c59 => ?_) (fun c59 => ?_)
    · omega
    · refine xald 63 ⟨u216, _, rfl⟩ rfl rfl ?_
      refine xgetR 66 75 hH ⟨u216, _, rfl⟩ rfl rfl ?_
      refine xild 67 ⟨u216, _, rfl⟩ rfl rfl ?_
      refine xiald 68 (wi).toInt.toNat hH ⟨u216, _, rfl⟩ rfl (by decide) rfl (by omega) (by omega) (fun z67 h67 => ?_)
      refine xald 69 ⟨u216, _, rfl⟩ rfl rfl ?_
      refine xgetR 72 75 hH ⟨u216, _, rfl⟩ rfl rfl ?_
      refine xild 73 ⟨u216, _, rfl⟩ rfl rfl ?_
      refine xiald 74 (wj).toInt.toNat hH ⟨u216, _, rfl⟩ rfl (by decide) rfl (by omega) (by omega) (fun z73 h73 => ?_)
      refine xxor 75 ⟨u216, _, rfl⟩ rfl ?_
      refine xald 76 ⟨u216, _, rfl⟩ rfl rfl ?_
      refine xgetR 79 75 hH ⟨u216, _, rfl⟩ rfl rfl ?_
      refine xild 80 ⟨u216, _, rfl⟩ rfl rfl ?_
      refine xiald 81 (wk).toInt.toNat hH ⟨u216, _, rfl⟩ rfl (by decide) rfl (by omega) (by omega) (fun z80 h80 => ?_)
      refine xxor 82 ⟨u216, _, rfl⟩ rfl ?_
      have a1 : z67.toInt = ((mN T i : Nat) : Int) := by rw [h67, show wi.toInt.toNat = i by omega]; exact LM i (by omega)
      have a2 : z73.toInt = ((mN T j : Nat) : Int) := by rw [h73, show wj.toInt.toNat = j by omega]; exact LM j (by omega)
      have a3 : z80.toInt = ((mN T k : Nat) : Int) := by rw [h80, show wk.toInt.toNat = k by omega]; exact LM k (by omega)
      have w1 := i_xor a1 a2 mi.1 mj.1
      have w88 := i_xor w1.1 a3 w1.2 mk.1
      refine xist2 84 ⟨u216, _, rfl⟩ rfl rfl ?_
      refine xald 85 ⟨u216, _, rfl⟩ rfl rfl ?_
      refine xild2 87 ⟨u216, _, rfl⟩ rfl rfl ?_
      refine xcall 90 [.ref 66, .int _] [] hH ⟨u216, _, rfl⟩ rfl rfl rfl rfl rfl (k_rist hH hB w88.1 w88.2 (fun z87 h87 => ⟨_, rfl, ?_⟩))
      refine xif_eq 93 ⟨u216, _, rfl⟩ rfl (fun c90 => ?_) (fun c90 => ?_)
      · refine xcst 103 (-1) ⟨u216, _, rfl⟩ rfl (by decide) (fun z102 h102 => ?_)
        refine xist2 105 ⟨u216, _, rfl⟩ rfl rfl ?_
        refine xild2 107 ⟨u216, _, rfl⟩ rfl rfl ?_
        refine xild 108 ⟨u216, _, rfl⟩ rfl rfl ?_
        refine xcmp_le 111 ⟨u216, _, rfl⟩ rfl (fun c108 => ?_) (fun c108 => ?_)
        · refine xinc 123 (1) ⟨u216, _, rfl⟩ rfl rfl rfl (by decide) (by omega) (by omega) (fun z120 h120 => ?_)
          refine xgoto ⟨u216, _, rfl⟩ ?_
          exact ih (k + 1) _ hp _ _ (by omega) (by omega) (by omega) hH hF (rqN_to hN (fL_skip (fun z => by have := hqd.mp z; omega)))
        · omega
      · refine xald 94 ⟨u216, _, rfl⟩ rfl rfl ?_
        refine xild2 96 ⟨u216, _, rfl⟩ rfl rfl ?_
        refine xcall 99 [.ref 66, .int _] [] hH ⟨u216, _, rfl⟩ rfl rfl rfl rfl rfl (k_rnof hH hB hL w88.1 (fun z96 h96 => ⟨_, rfl, ?_⟩))
        refine xgoto ⟨u216, _, rfl⟩ ?_
        refine xist2 105 ⟨u216, _, rfl⟩ rfl rfl ?_
        refine xild2 107 ⟨u216, _, rfl⟩ rfl rfl ?_
        refine xild 108 ⟨u216, _, rfl⟩ rfl rfl ?_
        refine xcmp_le 111 ⟨u216, _, rfl⟩ rfl (fun c108 => ?_) (fun c108 => ?_)
        · refine xinc 123 (1) ⟨u216, _, rfl⟩ rfl rfl rfl (by decide) (by omega) (by omega) (fun z120 h120 => ?_)
          refine xgoto ⟨u216, _, rfl⟩ ?_
          exact ih (k + 1) _ hp _ _ (by omega) (by omega) (by omega) hH hF (rqN_to hN (fL_skip (fun z => by have := hqd.mp z; omega)))
        · obtain ⟨l, l1, el⟩ : ∃ t : Nat, t < (trL T 225).length ∧ nmT T (mN T i ^^^ mN T j ^^^ mN T k) = (t : Int) := by
            rcases nm_lt (T := T) (mN T i ^^^ mN T j ^^^ mN T k) with g | g
            · omega
            · exact g
          have hl : Int32.toInt z96 = (l : Int) := by omega
          have qb : qdB T (1225 * i + 35 * j + k) = true := hqd.mpr (by omega)
          have hm5 : (fL (qdB T) (1225 * i + 35 * j + k + 1)).length ≤ 105 := Nat.le_trans (fL_le (by omega)) H105
          refine xald 112 ⟨u216, _, rfl⟩ rfl rfl ?_
          refine xild 113 ⟨u216, _, rfl⟩ rfl rfl ?_
          refine xild 114 ⟨u216, _, rfl⟩ rfl rfl ?_
          refine xild 115 ⟨u216, _, rfl⟩ rfl rfl ?_
          refine xild2 117 ⟨u216, _, rfl⟩ rfl rfl ?_
          refine xcall 120 [.ref 66, .int _, .int _, .int _, .int _] [] hH ⟨u216, _, rfl⟩ rfl rfl rfl rfl rfl (k_adq hH hN qb hm5 hwi hwj hwk (l := l) hl (by omega) (by omega) (by omega) (by rw [hn]; exact el) (by omega) (by omega) (by omega) (by omega) (fun hp117 hH117 F117 Q117 => ⟨_, rfl, ?_⟩))
          refine xinc 123 (1) ⟨u216, _, rfl⟩ rfl rfl rfl (by decide) (by omega) (by omega) (fun z120 h120 => ?_)
          refine xgoto ⟨u216, _, rfl⟩ ?_
          exact ih (k + 1) _ hp117 _ _ (by omega) (by omega) (by omega) hH117 (hF.trans F117) Q117
theorem l216jE {d i V : Nat} {T : sT} {hp0 : amH} {R : xQ} {wi : Int32} (hB0 : rdOk hp0 V T) (hL0 : rlN hp0 T 225) (H105 : (fL (qdB T) 42875).length ≤ 105) (hwi : wi.toInt = (i : Int)) (hil : i < (trL T 225).length)
    (hQ : ∀ hp (v2 v3 v4 v5 : Option Value), bHk 84 bTT hp → bFr wRq hp0 hp → rqN hp T (1225 * (i + 1)) → xV (d + 4) am_m216 132 [some (.ref 66), some (.int wi), v2, v3, v4, v5] [] hp R) :
    ∀ (jj j : Nat) (wj : Int32) (hp : amH) (v3 v4 v5 : Option Value), wj.toInt = (j : Int) → i < j → j + jj = (trL T 225).length → bHk 84 bTT hp → bFr wRq hp0 hp → rqN hp T (1225 * i + 35 * j) → xV (d + 4) am_m216 23 [some (.ref 66), some (.int wi), some (.int wj), v3, v4, v5] [] hp R := by
  intro jj
  induction jj with
  | zero =>
    intro j wj hp v3 v4 v5 hwj hij hj hH hF hN
    have hB : rdOk hp V T := rdOk_fr hB0 (fun _ => r_fr hF rfl)
    have hL : rlN hp T 225 := rlN_fr hL0 (r_fr hF rfl) (fun _ => r_fr hF rfl) (fun _ => r_fr hF rfl) (fun _ => r_fr hF rfl) (fun _ => r_fr hF rfl)
    have L1 := hL.1
    have l35 := trL_35 hB.2.1 225
    have LM : ∀ t, t < (trL T 225).length → rN hp 75 t = ((mN T t : Nat) : Int) := fun t ht => (hL.2 t ht).2.2.2
    refine xild 24 ⟨u216, _, rfl⟩ rfl rfl ?_
    refine xald 25 ⟨u216, _, rfl⟩ rfl rfl ?_
    refine xgetI 28 hH ⟨u216, _, rfl⟩ rfl rfl (fun z25 h25 => ?_)
    refine xcmp_ge 31 ⟨u216, _, rfl⟩ rfl (fun c28 => ?_) (fun c28 => ?_)
    · exact hQ hp _ _ _ _ hH hF (rqN_to hN (fL_no (by omega) (fun c c1 c2 => qd_no (by omega))))
    · omega
  | succ jj ih =>
    intro j wj hp v3 v4 v5 hwj hij hj hH hF hN
    have hB : rdOk hp V T := rdOk_fr hB0 (fun _ => r_fr hF rfl)
    have hL : rlN hp T 225 := rlN_fr hL0 (r_fr hF rfl) (fun _ => r_fr hF rfl) (fun _ => r_fr hF rfl) (fun _ => r_fr hF rfl) (fun _ => r_fr hF rfl)
    have L1 := hL.1
    have l35 := trL_35 hB.2.1 225
    have LM : ∀ t, t < (trL T 225).length → rN hp 75 t = ((mN T t : Nat) : Int) := fun t ht => (hL.2 t ht).2.2.2
    have mi := mN_lt hB.2.1 (show i < (trL T 225).length by omega)
    have mj := mN_lt hB.2.1 (show j < (trL T 225).length by omega)
    refine xild 24 ⟨u216, _, rfl⟩ rfl rfl ?_
    refine xald 25 ⟨u216, _, rfl⟩ rfl rfl ?_
    refine xgetI 28 hH ⟨u216, _, rfl⟩ rfl rfl (fun z25 h25 => ?_)
    refine xcmp_ge 31 ⟨u216, _, rfl⟩ rfl (fun c28 => ?_) (fun c28 => ?_)
    · omega
    · refine xald 32 ⟨u216, _, rfl⟩ rfl rfl ?_
      refine xgetR 35 75 hH ⟨u216, _, rfl⟩ rfl rfl ?_
      refine xild 36 ⟨u216, _, rfl⟩ rfl rfl ?_
      refine xiald 37 (wi).toInt.toNat hH ⟨u216, _, rfl⟩ rfl (by decide) rfl (by omega) (by omega) (fun z36 h36 => ?_)
      refine xald 38 ⟨u216, _, rfl⟩ rfl rfl ?_
      refine xgetR 41 75 hH ⟨u216, _, rfl⟩ rfl rfl ?_
      refine xild 42 ⟨u216, _, rfl⟩ rfl rfl ?_
      refine xiald 43 (wj).toInt.toNat hH ⟨u216, _, rfl⟩ rfl (by decide) rfl (by omega) (by omega) (fun z42 h42 => ?_)
      have a1 : z36.toInt = ((mN T i : Nat) : Int) := by rw [h36, show wi.toInt.toNat = i by omega]; exact LM i (by omega)
      have a2 : z42.toInt = ((mN T j : Nat) : Int) := by rw [h42, show wj.toInt.toNat = j by omega]; exact LM j (by omega)
      have w43 := (i_and a1 a2 mi.1).1
      refine xand 44 ⟨u216, _, rfl⟩ rfl ?_
      refine xif_ne 47 ⟨u216, _, rfl⟩ rfl (fun c44 => ?_) (fun c44 => ?_)
      · refine xild 51 ⟨u216, _, rfl⟩ rfl rfl ?_
        refine xcst 52 (1) ⟨u216, _, rfl⟩ rfl (by decide) (fun z51 h51 => ?_)
        refine xadd 53 _ ⟨u216, _, rfl⟩ rfl rfl (by omega) (by omega) (fun z52 h52 => ?_)
        refine xist 54 ⟨u216, _, rfl⟩ rfl rfl ?_
        refine l216kE hB0 hL0 H105 hwi hwj hij (by omega) (by omega) (fun hp1 v31 v41 v51 k1 k2 k3 => ?_) ((trL T 225).length - (j + 1)) (j + 1) _ hp _ _ (by omega) (by omega) (by omega) hH hF (rqN_to hN (fL_no (by omega) (fun c c1 c2 => qd_no (by omega))))
        refine xinc 129 (1) ⟨u216, _, rfl⟩ rfl rfl rfl (by decide) (by omega) (by omega) (fun z126 h126 => ?_)
        refine xgoto ⟨u216, _, rfl⟩ ?_
        exact ih (j + 1) _ hp1 _ _ _ (by omega) (by omega) (by omega) k1 k2 k3
      · refine xgoto ⟨u216, _, rfl⟩ ?_
        refine xinc 129 (1) ⟨u216, _, rfl⟩ rfl rfl rfl (by decide) (by omega) (by omega) (fun z126 h126 => ?_)
        refine xgoto ⟨u216, _, rfl⟩ ?_
        exact ih (j + 1) _ hp _ _ _ (by omega) (by omega) (by omega) hH hF (rqN_to hN (fL_no (by omega) (fun c c1 c2 => fun z => by
          have z := of_decide_eq_true z
          rw [show c / 1225 = i by omega, show c / 35 % 35 = j by omega] at z
          exact z.2.2.2.1 (by omega))))
theorem l216iE {d V : Nat} {T : sT} {hp0 : amH} {R : xQ} (hB0 : rdOk hp0 V T) (hL0 : rlN hp0 T 225) (H105 : (fL (qdB T) 42875).length ≤ 105) (hR : ∀ hp1, bHk 84 bTT hp1 → bFr wRq hp0 hp1 → rqN hp1 T 42875 → R (.inl none) hp1) :
    ∀ (ii i : Nat) (wi : Int32) (hp : amH) (v2 v3 v4 v5 : Option Value), wi.toInt = (i : Int) → i + ii = (trL T 225).length → bHk 84 bTT hp → bFr wRq hp0 hp → rqN hp T (1225 * i) → xV (d + 4) am_m216 11 [some (.ref 66), some (.int wi), v2, v3, v4, v5] [] hp R := by
  intro ii
  induction ii with
  | zero =>
    intro i wi hp v2 v3 v4 v5 hwi hi hH hF hN
    have hB : rdOk hp V T := rdOk_fr hB0 (fun _ => r_fr hF rfl)
    have hL : rlN hp T 225 := rlN_fr hL0 (r_fr hF rfl) (fun _ => r_fr hF rfl) (fun _ => r_fr hF rfl) (fun _ => r_fr hF rfl) (fun _ => r_fr hF rfl)
    have L1 := hL.1
    have l35 := trL_35 hB.2.1 225
    have LM : ∀ t, t < (trL T 225).length → rN hp 75 t = ((mN T t : Nat) : Int) := fun t ht => (hL.2 t ht).2.2.2
    refine xild 12 ⟨u216, _, rfl⟩ rfl rfl ?_
    refine xald 13 ⟨u216, _, rfl⟩ rfl rfl ?_
    refine xgetI 16 hH ⟨u216, _, rfl⟩ rfl rfl (fun z13 h13 => ?_)
    refine xcmp_ge 19 ⟨u216, _, rfl⟩ rfl (fun c16 => ?_) (fun c16 => ?_)
    · exact xretV ⟨u216, _, rfl⟩ rfl (hR hp hH hF (rqN_to hN (fL_no (by omega) (fun c c1 c2 => qd_no (by omega)))))
    · omega
  | succ ii ih =>
    intro i wi hp v2 v3 v4 v5 hwi hi hH hF hN
    have hB : rdOk hp V T := rdOk_fr hB0 (fun _ => r_fr hF rfl)
    have hL : rlN hp T 225 := rlN_fr hL0 (r_fr hF rfl) (fun _ => r_fr hF rfl) (fun _ => r_fr hF rfl) (fun _ => r_fr hF rfl) (fun _ => r_fr hF rfl)
    have L1 := hL.1
    have l35 := trL_35 hB.2.1 225
    have LM : ∀ t, t < (trL T 225).length → rN hp 75 t = ((mN T t : Nat) : Int) := fun t ht => (hL.2 t ht).2.2.2
    refine xild 12 ⟨u216, _, rfl⟩ rfl rfl ?_
    refine xald 13 ⟨u216, _, rfl⟩ rfl rfl ?_
    refine xgetI 16 hH ⟨u216, _, rfl⟩ rfl rfl (fun z13 h13 => ?_)
    refine xcmp_ge 19 ⟨u216, _, rfl⟩ rfl (fun c16 => ?_) (fun c16 => ?_)
    · omega
    · refine xild 20 ⟨u216, _, rfl⟩ rfl rfl ?_
      refine xcst 21 (1) ⟨u216, _, rfl⟩ rfl (by decide) (fun z20 h20 => ?_)
      refine xadd 22 _ ⟨u216, _, rfl⟩ rfl rfl (by omega) (by omega) (fun z21 h21 => ?_)
      refine xist 23 ⟨u216, _, rfl⟩ rfl rfl ?_
      refine l216jE hB0 hL0 H105 hwi (by omega) (fun hp1 v21 v31 v41 v51 k1 k2 k3 => ?_) ((trL T 225).length - (i + 1)) (i + 1) _ hp _ _ _ (by omega) (by omega) (by omega) hH hF (rqN_to hN (fL_no (by omega) (fun c c1 c2 => qd_no (by omega))))
      refine xinc 135 (1) ⟨u216, _, rfl⟩ rfl rfl rfl (by decide) (by omega) (by omega) (fun z132 h132 => ?_)
      refine xgoto ⟨u216, _, rfl⟩ ?_
      exact ih (i + 1) _ hp1 _ _ _ _ (by omega) (by omega) k1 k2 k3
noncomputable def wLQE : List (Nat × Nat) := [(66, 14), (76, 999)] ++ bLT
theorem k_lqs {d V : Nat} {T : sT} {hp : amH} {R : xQ} (hH : bHk 84 bTT hp) (hB : rdOk hp V T) (H105 : (fL (qdB T) 42875).length ≤ 105) (hR : ∀ hp1, bHk 84 bTT hp1 → bFr wLQE hp hp1 → rdOk hp1 V T → rlN hp1 T 225 → rqN hp1 T 42875 → R (.inl none) hp1) : xK (d + 4) 216 [.ref 66] hp R := by
  refine xin (M := am_m216) rfl rfl rfl ?_
  refine xald 1 ⟨u216, _, rfl⟩ rfl rfl ?_
  refine xcall 4 [.ref 66] [] hH ⟨u216, _, rfl⟩ rfl rfl rfl rfl rfl (k_rlst hH hB (fun hp1 hH1 F1 B1 L1 => ⟨_, rfl, ?_⟩))
  refine xald 5 ⟨u216, _, rfl⟩ rfl rfl ?_
  refine xcst 6 (0) ⟨u216, _, rfl⟩ rfl (by decide) (fun z5 h5 => ?_)
  refine xputI 9 hH1 ⟨u216, _, rfl⟩ rfl rfl ⟨rfl, rfl⟩ (by omega) (by omega) (fun hp6 hH6 U6 => ?_)
  have s6 := U6.1
  refine xcst 10 (0) ⟨u216, _, rfl⟩ rfl (by decide) (fun z9 h9 => ?_)
  refine xist 11 ⟨u216, _, rfl⟩ rfl rfl ?_
  have B6 : rdOk hp6 V T := rdOk_fr B1 (fun _ => rU_ne U6 (by first | decide | exact (fun z => absurd z.1 (by decide)) | omega))
  have L6 : rlN hp6 T 225 := rlN_fr L1 (rU_ne U6 (by first | decide | exact (fun z => absurd z.1 (by decide)) | omega)) (fun _ => rU_ne U6 (by first | decide | exact (fun z => absurd z.1 (by decide)) | omega)) (fun _ => rU_ne U6 (by first | decide | exact (fun z => absurd z.1 (by decide)) | omega)) (fun _ => rU_ne U6 (by first | decide | exact (fun z => absurd z.1 (by decide)) | omega)) (fun _ => rU_ne U6 (by first | decide | exact (fun z => absurd z.1 (by decide)) | omega))
  refine xpad 4 ?_
  exact l216iE B6 L6 H105 (fun hp1 g1 g2 g3 => hR hp1 g1 (((bFr_sub F1 (by decide)).trans (rU_fr U6 (by decide))).trans (bFr_sub g2 (by decide))) (rdOk_fr B6 (fun _ => r_fr g2 rfl)) (rlN_fr L6 (r_fr g2 rfl) (fun _ => r_fr g2 rfl) (fun _ => r_fr g2 rfl) (fun _ => r_fr g2 rfl) (fun _ => r_fr g2 rfl)) g3) (trL T 225).length 0 _ hp6 _ _ _ _ (by omega) (by omega) hH6 (bFr.refl _ _) ⟨by rw [U6.1]; exact h5, fun q hq => absurd hq (Nat.not_lt_zero q)⟩
end
/-! ##### 19.m.050.35a ##### -/
section
/-! ===== sums (pure) ===== -/
noncomputable def sm (f : Nat → Nat) : Nat → Nat
  | 0 => 0
  | n + 1 => sm f n + f n
theorem sm_ext {f g : Nat → Nat} : ∀ n, (∀ i, i < n → f i = g i) → sm f n = sm g n
  | 0, _ => rfl
  | n + 1, h => by
    show sm f n + f n = sm g n + g n
    rw [sm_ext n (fun i hi => h i (by omega)), h n (by omega)]
theorem sm_add (f g : Nat → Nat) : ∀ n, sm (fun i => f i + g i) n = sm f n + sm g n
  | 0 => rfl
  | n + 1 => by
    show sm (fun i => f i + g i) n + (f n + g n) = sm f n + f n + (sm g n + g n)
    rw [sm_add f g n]
    omega
theorem sm_0 : ∀ n, sm (fun _ => 0) n = 0
  | 0 => rfl
  | n + 1 => by
    show sm (fun _ => 0) n + 0 = 0
    rw [sm_0 n]
theorem sm_none {f : Nat → Nat} {n : Nat} (h : ∀ i, i < n → f i = 0) : sm f n = 0 := (sm_ext n h).trans (sm_0 n)
theorem sm_mul (c : Nat) (f : Nat → Nat) : ∀ n, sm (fun i => c * f i) n = c * sm f n
  | 0 => rfl
  | n + 1 => by
    show sm (fun i => c * f i) n + c * f n = c * (sm f n + f n)
    rw [sm_mul c f n, Nat.mul_add]
theorem sm_le {f g : Nat → Nat} : ∀ n, (∀ i, i < n → f i ≤ g i) → sm f n ≤ sm g n
  | 0, _ => Nat.le_refl _
  | n + 1, h => Nat.add_le_add (sm_le n (fun i hi => h i (by omega))) (h n (by omega))
theorem sm_const (c : Nat) : ∀ n, sm (fun _ => c) n = n * c
  | 0 => by simp [sm]
  | n + 1 => by
    show sm (fun _ => c) n + c = (n + 1) * c
    rw [sm_const c n, Nat.add_mul]
    omega
theorem sm_swap (f : Nat → Nat → Nat) (m : Nat) : ∀ n, sm (fun i => sm (fun j => f i j) m) n = sm (fun j => sm (fun i => f i j) n) m
  | 0 => (sm_0 m).symm
  | n + 1 => by
    show sm (fun i => sm (fun j => f i j) m) n + sm (fun j => f n j) m = sm (fun j => sm (fun i => f i j) n + f n j) m
    rw [sm_swap f m n, sm_add]
/-- one index alone counts -/
theorem sm_one {f : Nat → Nat} {n k c : Nat} (hk : k < n) (h : f k = c) (h0 : ∀ i, i < n → ¬ i = k → f i = 0) : sm f n = c := by
  induction n with
  | zero => omega
  | succ n ih =>
    show sm f n + f n = c
    by_cases e : k = n
    · subst e
      rw [h, sm_none (fun i hi => h0 i (by omega) (by omega))]
      omega
    · rw [ih (by omega) (fun i hi => h0 i (by omega)), h0 n (by omega) (fun z => e z.symm)]
      rfl
theorem sm_split (f : Nat → Nat) (a : Nat) : ∀ b, sm f (a + b) = sm f a + sm (fun j => f (a + j)) b
  | 0 => rfl
  | b + 1 => by
    show sm f (a + b) + f (a + b) = sm f a + (sm (fun j => f (a + j)) b + f (a + b))
    rw [sm_split f a b]
    omega
theorem sm_prod (f : Nat → Nat) (b : Nat) : ∀ a, sm f (a * b) = sm (fun i => sm (fun j => f (i * b + j)) b) a
  | 0 => by rw [Nat.zero_mul]; rfl
  | a + 1 => by
    show sm f ((a + 1) * b) = sm (fun i => sm (fun j => f (i * b + j)) b) a + sm (fun j => f (a * b + j)) b
    rw [Nat.add_mul, Nat.one_mul, sm_split, sm_prod f b a]
/-- 1 where p holds -/
noncomputable def iv (p : Prop) [Decidable p] : Nat := if p then 1 else 0
theorem iv_t {p : Prop} [Decidable p] (h : p) : iv p = 1 := if_pos h
theorem iv_f {p : Prop} [Decidable p] (h : ¬ p) : iv p = 0 := if_neg h
theorem iv_eq {p q : Prop} [Decidable p] [Decidable q] (h : p ↔ q) : iv p = iv q := by
  by_cases hp : p
  · rw [iv_t hp, iv_t (h.mp hp)]
  · rw [iv_f hp, iv_f (fun z => hp (h.mpr z))]
theorem iv_le {p : Prop} [Decidable p] : iv p ≤ 1 := by
  unfold iv
  split <;> omega
theorem iv_or {p q : Prop} [Decidable p] [Decidable q] (h : ¬ (p ∧ q)) : iv (p ∨ q) = iv p + iv q := by
  by_cases hp : p
  · rw [iv_t (Or.inl hp), iv_t hp, iv_f (fun hq => h ⟨hp, hq⟩)]
  · by_cases hq : q
    · rw [iv_t (Or.inr hq), iv_f hp, iv_t hq]
    · rw [iv_f (fun z => z.elim hp hq), iv_f hp, iv_f hq]
theorem fL_sm {B : Nat → Bool} : ∀ n, (fL B n).length = sm (fun i => iv (B i = true)) n
  | 0 => rfl
  | n + 1 => by
    show (fL B (n + 1)).length = sm (fun i => iv (B i = true)) n + iv (B n = true)
    by_cases h : B n = true
    · rw [fL_add h, List.length_append, List.length_singleton, fL_sm n, iv_t h]
    · rw [fL_skip h, fL_sm n, iv_f h]
      rfl
/-! sums over three and four -/
noncomputable def s3 (n : Nat) (f : Nat → Nat → Nat → Nat) : Nat := sm (fun i => sm (fun j => sm (fun k => f i j k) n) n) n
theorem s3_ext {n : Nat} {f g : Nat → Nat → Nat → Nat} (h : ∀ i j k, i < n → j < n → k < n → f i j k = g i j k) : s3 n f = s3 n g :=
  sm_ext n (fun i hi => sm_ext n (fun j hj => sm_ext n (fun k hk => h i j k hi hj hk)))
theorem s3_add {n : Nat} (f g : Nat → Nat → Nat → Nat) : s3 n (fun i j k => f i j k + g i j k) = s3 n f + s3 n g := by
  unfold s3
  rw [← sm_add]
  refine sm_ext n (fun i _ => ?_)
  rw [← sm_add]
  exact sm_ext n (fun j _ => sm_add _ _ n)
theorem s3_12 {n : Nat} (f : Nat → Nat → Nat → Nat) : s3 n (fun i j k => f j i k) = s3 n f := sm_swap _ n n
theorem s3_23 {n : Nat} (f : Nat → Nat → Nat → Nat) : s3 n (fun i j k => f i k j) = s3 n f := sm_ext n (fun i _ => sm_swap _ n n)
noncomputable def s4 (n : Nat) (f : Nat → Nat → Nat → Nat → Nat) : Nat := sm (fun i => s3 n (fun j k l => f i j k l)) n
theorem s4_ext {n : Nat} {f g : Nat → Nat → Nat → Nat → Nat} (h : ∀ i j k l, i < n → j < n → k < n → l < n → f i j k l = g i j k l) : s4 n f = s4 n g :=
  sm_ext n (fun i hi => s3_ext (fun j k l hj hk hl => h i j k l hi hj hk hl))
theorem s4_add {n : Nat} (f g : Nat → Nat → Nat → Nat → Nat) : s4 n (fun i j k l => f i j k l + g i j k l) = s4 n f + s4 n g := by
  unfold s4
  rw [← sm_add]
  exact sm_ext n (fun i _ => s3_add _ _)
theorem s4_12 {n : Nat} (f : Nat → Nat → Nat → Nat → Nat) : s4 n (fun i j k l => f j i k l) = s4 n f := sm_swap _ n n
theorem s4_23 {n : Nat} (f : Nat → Nat → Nat → Nat → Nat) : s4 n (fun i j k l => f i k j l) = s4 n f := sm_ext n (fun i _ => s3_12 (fun j k l => f i j k l))
theorem s4_34 {n : Nat} (f : Nat → Nat → Nat → Nat → Nat) : s4 n (fun i j k l => f i j l k) = s4 n f := sm_ext n (fun i _ => s3_23 (fun j k l => f i j k l))
end
