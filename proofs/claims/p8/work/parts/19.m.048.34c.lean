/-! ===== the class gathers its quadrilaterals ===== -/
theorem nmF_lt {T : sT} {m : Nat} : ∀ (f k : Nat), nmF T m k f = -1 ∨ ∃ t : Nat, k ≤ t ∧ t < k + f ∧ nmF T m k f = (t : Int)
  | 0, k => Or.inl rfl
  | f + 1, k => by
    unfold nmF
    split
    · exact Or.inr ⟨k, Nat.le_refl _, by omega, rfl⟩
    · rcases nmF_lt f (k + 1) with g | ⟨t, t1, t2, t3⟩
      · exact Or.inl g
      · exact Or.inr ⟨t, by omega, by omega, t3⟩
theorem nm_lt {T : sT} (m : Nat) : nmT T m = -1 ∨ ∃ t : Nat, t < (trL T 225).length ∧ nmT T m = (t : Int) := by
  rcases nmF_lt (T := T) (m := m) (trL T 225).length 0 with g | ⟨t, -, t2, t3⟩
  · exact Or.inl g
  · exact Or.inr ⟨t, by omega, t3⟩
theorem qdN_to {hp : amH} {T : sT} {n m : Nat} (h : qdN hp T n) (e : fL (qdB T) m = fL (qdB T) n) : qdN hp T m := by
  unfold qdN
  rw [e]
  exact h
theorem qd_no {T : sT} {n : Nat} (h : n / 35 / 35 = n / 1225 → ¬ (n / 1225 < n / 35 % 35 ∧ n / 35 % 35 < n % 35 ∧ n % 35 < (trL T 225).length)) : ¬ qdB T n = true := fun z => by
  have := of_decide_eq_true z
  exact h (by rw [Nat.div_div_eq_div_mul]) ⟨this.1, this.2.1, this.2.2.1⟩
theorem l57k {d i j V : Nat} {T : sT} {hp0 : amH} {R : xQ} {wi wj wm w2 : Int32} (hB0 : bdOk hp0 3 V T) (hL0 : lsN hp0 3 T 225) (H105 : (fL (qdB T) 42875).length ≤ 105) (hwi : wi.toInt = (i : Int)) (hwj : wj.toInt = (j : Int)) (hij : i < j) (hjl : j < (trL T 225).length) (hwm : wm.toInt = 1) (hw2 : w2.toInt = ((mN T i ^^^ mN T j : Nat) : Int)) (hmt : ¬ mN T i &&& mN T j = 0)
    (hQ : ∀ hp (wk : Int32) (v7 v8 : Option Value), bHk 84 bTT hp → bFx [49, 50, 51] hp0 hp → qdN hp T (1225 * i + 35 * (j + 1)) → xV (d + 4) am_m57 149 [some (.ref 49), some (.ref 3), some (.int wi), some (.int wj), some (.int wm), some (.int w2), some (.int wk), v7, v8] [] hp R) :
    ∀ (jj k : Nat) (wk : Int32) (hp : amH) (v7 v8 : Option Value), wk.toInt = (k : Int) → j < k → k + jj = (trL T 225).length → bHk 84 bTT hp → bFx [49, 50, 51] hp0 hp → qdN hp T (1225 * i + 35 * j + k) → xV (d + 4) am_m57 66 [some (.ref 49), some (.ref 3), some (.int wi), some (.int wj), some (.int wm), some (.int w2), some (.int wk), v7, v8] [] hp R := by
  intro jj
  induction jj with
  | zero =>
    intro k wk hp v7 v8 hwk hjk hk hH hF hN
    have hB : bdOk hp 3 V T := bdOk_fr hB0 (bFx_n hF (by simp)) (fun _ => bFx_n hF (by simp)) (fun _ => bFx_n hF (by simp))
    have hL : lsN hp 3 T 225 := lsN_fr hL0 (bFx_n hF (by simp)) (fun _ => bFx_n hF (by simp)) (fun _ => bFx_n hF (by simp))
    have L1 := hL.1
    have l35 := trL_35 hB.2.1 225
    refine xild2 68 ⟨u57, _, rfl⟩ rfl rfl ?_
    refine xald 69 ⟨u57, _, rfl⟩ rfl rfl ?_
    refine xgetC 72 hH ⟨u57, _, rfl⟩ rfl (by decide) (by decide) rfl rfl (by decide) (fun z69 h69 => ?_)
    refine xcmp_ge 75 ⟨u57, _, rfl⟩ rfl (fun c72 => ?_) (fun c72 => ?_)
    · refine hQ hp _ _ _ hH hF (qdN_to hN (fL_no (by omega) (fun c c1 c2 => qd_no (by omega))))
    · omega
  | succ jj ih =>
    intro k wk hp v7 v8 hwk hjk hk hH hF hN
    have hB : bdOk hp 3 V T := bdOk_fr hB0 (bFx_n hF (by simp)) (fun _ => bFx_n hF (by simp)) (fun _ => bFx_n hF (by simp))
    have hL : lsN hp 3 T 225 := lsN_fr hL0 (bFx_n hF (by simp)) (fun _ => bFx_n hF (by simp)) (fun _ => bFx_n hF (by simp))
    have L1 := hL.1
    have l35 := trL_35 hB.2.1 225
    have mi := mN_lt hB.2.1 (show i < (trL T 225).length by omega)
    have mj := mN_lt hB.2.1 (show j < (trL T 225).length by omega)
    have mk := mN_lt hB.2.1 (show k < (trL T 225).length by omega)
    have x2 : mN T i ^^^ mN T j < 32768 := Nat.xor_lt_two_pow (n := 15) (by omega) (by omega)
    have hn : qR T (1225 * i + 35 * j + k) = mN T i ^^^ mN T j ^^^ mN T k := by
      unfold qR
      rw [show (1225 * i + 35 * j + k) / 1225 = i by omega, show (1225 * i + 35 * j + k) / 35 % 35 = j by omega, show (1225 * i + 35 * j + k) % 35 = k by omega]
    have hqd : qdB T (1225 * i + 35 * j + k) = true ↔ (k : Int) < nmT T (mN T i ^^^ mN T j ^^^ mN T k) := by
      unfold qdB
      rw [decide_eq_true_iff, hn, show (1225 * i + 35 * j + k) / 1225 = i by omega, show (1225 * i + 35 * j + k) / 35 % 35 = j by omega, show (1225 * i + 35 * j + k) % 35 = k by omega]
      exact ⟨fun z => z.2.2.2.2, fun z => ⟨hij, hjk, by omega, hmt, z⟩⟩
    refine xild2 68 ⟨u57, _, rfl⟩ rfl rfl ?_
    refine xald 69 ⟨u57, _, rfl⟩ rfl rfl ?_
    refine xgetC 72 hH ⟨u57, _, rfl⟩ rfl (by decide) (by decide) rfl rfl (by decide) (fun z69 h69 => ?_)
    refine xcmp_ge 75 ⟨u57, _, rfl⟩ rfl (fun c72 => ?_) (fun c72 => ?_)
    · omega
    · refine xild2 77 ⟨u57, _, rfl⟩ rfl rfl ?_
      refine xif_eq 80 ⟨u57, _, rfl⟩ rfl (fun c77 => ?_) (fun c77 => ?_)
      · omega
      · refine xild2 82 ⟨u57, _, rfl⟩ rfl rfl ?_
        refine xald 83 ⟨u57, _, rfl⟩ rfl rfl ?_
        refine xild2 85 ⟨u57, _, rfl⟩ rfl rfl ?_
        refine xcallC 88 (o := 3) [.int _] [.int _] hH ⟨u57, _, rfl⟩ rfl rfl (by decide) rfl (by decide) rfl ⟨rfl, rfl, rfl, rfl⟩ rfl (k_setL hH hL (t := k) (by omega) (by omega) (fun z85 h85 => ⟨_, rfl, ?_⟩))
        refine xxor 89 ⟨u57, _, rfl⟩ rfl ?_
        refine xist2 91 ⟨u57, _, rfl⟩ rfl rfl ?_
        have w88 := i_xor hw2 h85 x2 mk.1
        refine xild2 93 ⟨u57, _, rfl⟩ rfl rfl ?_
        refine xcallS 96 [.int _] [] hH ⟨u57, _, rfl⟩ rfl rfl rfl rfl rfl (k_bc w88.1 (fun z93 h93 => ⟨_, rfl, ?_⟩))
        refine xcst 97 (3) ⟨u57, _, rfl⟩ rfl (by decide) (fun z96 h96 => ?_)
        refine xcmp_ne 100 ⟨u57, _, rfl⟩ rfl (fun c97 => ?_) (fun c97 => ?_)
        · have hneg : nmT T (mN T i ^^^ mN T j ^^^ mN T k) = -1 := nm_neg hB.2.1 (fun x y z y1 y2 y3 y4 => by
            obtain ⟨w, ew, w1, w2, w3, -⟩ := sOk_at hB.2.1 y4 (by omega)
            have hV := hB.2.1.2.1
            have e9 : bcN (m3 x y z) = 3 := bc_m3 ⟨x, by omega⟩ ⟨y, by omega⟩ ⟨z, by omega⟩ y1 y2
            rw [← y3] at e9
            omega)
          refine xcst 110 (-1) ⟨u57, _, rfl⟩ rfl (by decide) (fun z109 h109 => ?_)
          refine xist2 112 ⟨u57, _, rfl⟩ rfl rfl ?_
          refine xild2 114 ⟨u57, _, rfl⟩ rfl rfl ?_
          refine xild2 116 ⟨u57, _, rfl⟩ rfl rfl ?_
          refine xcmp_le 119 ⟨u57, _, rfl⟩ rfl (fun c116 => ?_) (fun c116 => ?_)
          · refine xinc 146 (1) ⟨u57, _, rfl⟩ rfl rfl rfl (by decide) (by omega) (by omega) (fun z143 h143 => ?_)
            refine xgoto ⟨u57, _, rfl⟩ ?_
            exact ih (k + 1) _ hp _ _ (by omega) (by omega) (by omega) hH hF (qdN_to hN (fL_skip (fun z => by have := hqd.mp z; omega)))
          · omega
        · obtain ⟨a, b, c, -, -, q1, q2, q3, er⟩ := b3_s w88.1 w88.2 (by rw [bc_of w88.1]; omega)
          have pts : ∀ p, (p = a ∨ p = b ∨ p = c) → p < V := fun p hp => by
            have t : (mN T i ^^^ mN T j ^^^ mN T k).testBit p = true := by rw [er, m3_test]; exact decide_eq_true hp
            rw [Nat.testBit_xor, Nat.testBit_xor] at t
            cases h1 : (mN T i).testBit p with
            | true => exact mi.2 p h1
            | false =>
              cases h2 : (mN T j).testBit p with
              | true => exact mj.2 p h2
              | false =>
                cases h3 : (mN T k).testBit p with
                | true => exact mk.2 p h3
                | false => rw [h1, h2, h3] at t; cases t
          have pa := pts a (Or.inl rfl)
          have pb := pts b (Or.inr (Or.inl rfl))
          have pc := pts c (Or.inr (Or.inr rfl))
          refine xald 101 ⟨u57, _, rfl⟩ rfl rfl ?_
          refine xild2 103 ⟨u57, _, rfl⟩ rfl rfl ?_
          refine xcallC 106 (o := 3) [.int _] [] hH ⟨u57, _, rfl⟩ rfl rfl (by decide) rfl (by decide) rfl ⟨rfl, rfl, rfl, rfl⟩ rfl (k_nof (o := 3) (Or.inl rfl) hH hB hL (a := a) (b := b) (c := c) (by rw [w88.1, er]) pa pb pc (by omega) (by omega) (by omega) (fun z103 h103 => ⟨_, rfl, ?_⟩))
          rw [← er] at h103
          refine xgoto ⟨u57, _, rfl⟩ ?_
          refine xist2 112 ⟨u57, _, rfl⟩ rfl rfl ?_
          refine xild2 114 ⟨u57, _, rfl⟩ rfl rfl ?_
          refine xild2 116 ⟨u57, _, rfl⟩ rfl rfl ?_
          refine xcmp_le 119 ⟨u57, _, rfl⟩ rfl (fun c116 => ?_) (fun c116 => ?_)
          · refine xinc 146 (1) ⟨u57, _, rfl⟩ rfl rfl rfl (by decide) (by omega) (by omega) (fun z143 h143 => ?_)
            refine xgoto ⟨u57, _, rfl⟩ ?_
            exact ih (k + 1) _ hp _ _ (by omega) (by omega) (by omega) hH hF (qdN_to hN (fL_skip (fun z => by have := hqd.mp z; omega)))
          · obtain ⟨l, l1, el⟩ : ∃ t : Nat, t < (trL T 225).length ∧ nmT T (mN T i ^^^ mN T j ^^^ mN T k) = (t : Int) := by
              rcases nm_lt (T := T) (mN T i ^^^ mN T j ^^^ mN T k) with g | g
              · omega
              · exact g
            have hl : Int32.toInt z103 = (l : Int) := by omega
            have qb : qdB T (1225 * i + 35 * j + k) = true := hqd.mpr (by omega)
            have hm5 : (fL (qdB T) (1225 * i + 35 * j + k + 1)).length ≤ 105 := Nat.le_trans (fL_le (by omega)) H105
            refine xald 120 ⟨u57, _, rfl⟩ rfl rfl ?_
            refine xild 121 ⟨u57, _, rfl⟩ rfl rfl ?_
            refine xild 122 ⟨u57, _, rfl⟩ rfl rfl ?_
            refine xild2 124 ⟨u57, _, rfl⟩ rfl rfl ?_
            refine xild2 126 ⟨u57, _, rfl⟩ rfl rfl ?_
            refine xald 127 ⟨u57, _, rfl⟩ rfl rfl ?_
            refine xild 128 ⟨u57, _, rfl⟩ rfl rfl ?_
            refine xcallC 131 (o := 3) [.int _] [.int _, .int _, .int _, .int _, .ref 49] hH ⟨u57, _, rfl⟩ rfl rfl (by decide) rfl (by decide) rfl ⟨rfl, rfl, rfl, rfl⟩ rfl (k_setL hH hL (t := i) (by omega) (by omega) (fun z128 h128 => ⟨_, rfl, ?_⟩))
            refine xald 132 ⟨u57, _, rfl⟩ rfl rfl ?_
            refine xild 133 ⟨u57, _, rfl⟩ rfl rfl ?_
            refine xcallC 136 (o := 3) [.int _] [.int _, .int _, .int _, .int _, .int _, .ref 49] hH ⟨u57, _, rfl⟩ rfl rfl (by decide) rfl (by decide) rfl ⟨rfl, rfl, rfl, rfl⟩ rfl (k_setL hH hL (t := j) (by omega) (by omega) (fun z133 h133 => ⟨_, rfl, ?_⟩))
            refine xor_ 137 ⟨u57, _, rfl⟩ rfl ?_
            refine xild2 139 ⟨u57, _, rfl⟩ rfl rfl ?_
            refine xor_ 140 ⟨u57, _, rfl⟩ rfl ?_
            have u1 := i_or h128 h133 mi.1 mj.1
            have w139 := (i_or u1.1 w88.1 u1.2 w88.2).1
            rw [← hn] at w139
            refine xcallC 143 (o := 49) [.int _, .int _, .int _, .int _, .int _] [] hH ⟨u57, _, rfl⟩ rfl rfl (by decide) rfl (by decide) rfl ⟨rfl, rfl, rfl, rfl⟩ rfl (k_kpq hH hN qb hm5 hwi hwj hwk (l := l) hl (u := mN T i ||| mN T j ||| qR T (1225 * i + 35 * j + k)) w139 (by omega) (by omega) (by omega) (by rw [hn]; exact el) rfl (by omega) (by omega) (fun hp140 hH140 F140 Q140 => ⟨_, rfl, ?_⟩))
            refine xinc 146 (1) ⟨u57, _, rfl⟩ rfl rfl rfl (by decide) (by omega) (by omega) (fun z143 h143 => ?_)
            refine xgoto ⟨u57, _, rfl⟩ ?_
            exact ih (k + 1) _ hp140 _ _ (by omega) (by omega) (by omega) hH140 (hF.trans F140) Q140
theorem l57z {d i j V : Nat} {T : sT} {hp0 : amH} {R : xQ} {wi wj wm w2 : Int32} (hB0 : bdOk hp0 3 V T) (hL0 : lsN hp0 3 T 225) (H105 : (fL (qdB T) 42875).length ≤ 105) (hwi : wi.toInt = (i : Int)) (hwj : wj.toInt = (j : Int)) (hij : i < j) (hjl : j < (trL T 225).length) (hwm : wm.toInt = 0) (hmt : mN T i &&& mN T j = 0)
    (hQ : ∀ hp (wk : Int32) (v7 v8 : Option Value), bHk 84 bTT hp → bFx [49, 50, 51] hp0 hp → qdN hp T (1225 * i + 35 * (j + 1)) → xV (d + 4) am_m57 149 [some (.ref 49), some (.ref 3), some (.int wi), some (.int wj), some (.int wm), some (.int w2), some (.int wk), v7, v8] [] hp R) :
    ∀ (wk : Int32) (hp : amH) (v7 v8 : Option Value), wk.toInt = (j : Int) + 1 → bHk 84 bTT hp → bFx [49, 50, 51] hp0 hp → qdN hp T (1225 * i + 35 * j) → xV (d + 4) am_m57 66 [some (.ref 49), some (.ref 3), some (.int wi), some (.int wj), some (.int wm), some (.int w2), some (.int wk), v7, v8] [] hp R := by
  intro wk hp v7 v8 hwk hH hF hN
  have hB : bdOk hp 3 V T := bdOk_fr hB0 (bFx_n hF (by simp)) (fun _ => bFx_n hF (by simp)) (fun _ => bFx_n hF (by simp))
  have hL : lsN hp 3 T 225 := lsN_fr hL0 (bFx_n hF (by simp)) (fun _ => bFx_n hF (by simp)) (fun _ => bFx_n hF (by simp))
  have L1 := hL.1
  have l35 := trL_35 hB.2.1 225
  refine xild2 68 ⟨u57, _, rfl⟩ rfl rfl ?_
  refine xald 69 ⟨u57, _, rfl⟩ rfl rfl ?_
  refine xgetC 72 hH ⟨u57, _, rfl⟩ rfl (by decide) (by decide) rfl rfl (by decide) (fun z69 h69 => ?_)
  refine xcmp_ge 75 ⟨u57, _, rfl⟩ rfl (fun c72 => ?_) (fun c72 => ?_)
  · exact hQ hp _ _ _ hH hF (qdN_to hN (fL_no (by omega) (fun c c1 c2 => fun z => by
      have z := of_decide_eq_true z
      rw [show c / 1225 = i by omega, show c / 35 % 35 = j by omega] at z
      exact z.2.2.2.1 hmt)))
  · refine xild2 77 ⟨u57, _, rfl⟩ rfl rfl ?_
    refine xif_eq 80 ⟨u57, _, rfl⟩ rfl (fun c77 => ?_) (fun c77 => ?_)
    · exact hQ hp _ _ _ hH hF (qdN_to hN (fL_no (by omega) (fun c c1 c2 => fun z => by
        have z := of_decide_eq_true z
        rw [show c / 1225 = i by omega, show c / 35 % 35 = j by omega] at z
        exact z.2.2.2.1 hmt)))
    · omega
theorem l57j {d i V : Nat} {T : sT} {hp0 : amH} {R : xQ} {wi : Int32} (hB0 : bdOk hp0 3 V T) (hL0 : lsN hp0 3 T 225) (H105 : (fL (qdB T) 42875).length ≤ 105) (hwi : wi.toInt = (i : Int)) (hil : i < (trL T 225).length)
    (hQ : ∀ hp (wj : Int32) (v4 v5 v6 v7 v8 : Option Value), bHk 84 bTT hp → bFx [49, 50, 51] hp0 hp → qdN hp T (1225 * (i + 1)) → xV (d + 4) am_m57 155 [some (.ref 49), some (.ref 3), some (.int wi), some (.int wj), v4, v5, v6, v7, v8] [] hp R) :
    ∀ (jj j : Nat) (wj : Int32) (hp : amH) (v4 v5 v6 v7 v8 : Option Value), wj.toInt = (j : Int) → i < j → j + jj = (trL T 225).length → bHk 84 bTT hp → bFx [49, 50, 51] hp0 hp → qdN hp T (1225 * i + 35 * j) → xV (d + 4) am_m57 19 [some (.ref 49), some (.ref 3), some (.int wi), some (.int wj), v4, v5, v6, v7, v8] [] hp R := by
  intro jj
  induction jj with
  | zero =>
    intro j wj hp v4 v5 v6 v7 v8 hwj hij hj hH hF hN
    have hB : bdOk hp 3 V T := bdOk_fr hB0 (bFx_n hF (by simp)) (fun _ => bFx_n hF (by simp)) (fun _ => bFx_n hF (by simp))
    have hL : lsN hp 3 T 225 := lsN_fr hL0 (bFx_n hF (by simp)) (fun _ => bFx_n hF (by simp)) (fun _ => bFx_n hF (by simp))
    have L1 := hL.1
    have l35 := trL_35 hB.2.1 225
    refine xild 20 ⟨u57, _, rfl⟩ rfl rfl ?_
    refine xald 21 ⟨u57, _, rfl⟩ rfl rfl ?_
    refine xgetC 24 hH ⟨u57, _, rfl⟩ rfl (by decide) (by decide) rfl rfl (by decide) (fun z21 h21 => ?_)
    refine xcmp_ge 27 ⟨u57, _, rfl⟩ rfl (fun c24 => ?_) (fun c24 => ?_)
    · exact hQ hp _ _ _ _ _ _ hH hF (qdN_to hN (fL_no (by omega) (fun c c1 c2 => qd_no (by omega))))
    · omega
  | succ jj ih =>
    intro j wj hp v4 v5 v6 v7 v8 hwj hij hj hH hF hN
    have hB : bdOk hp 3 V T := bdOk_fr hB0 (bFx_n hF (by simp)) (fun _ => bFx_n hF (by simp)) (fun _ => bFx_n hF (by simp))
    have hL : lsN hp 3 T 225 := lsN_fr hL0 (bFx_n hF (by simp)) (fun _ => bFx_n hF (by simp)) (fun _ => bFx_n hF (by simp))
    have L1 := hL.1
    have l35 := trL_35 hB.2.1 225
    have mi := mN_lt hB.2.1 (show i < (trL T 225).length by omega)
    have mj := mN_lt hB.2.1 (show j < (trL T 225).length by omega)
    refine xild 20 ⟨u57, _, rfl⟩ rfl rfl ?_
    refine xald 21 ⟨u57, _, rfl⟩ rfl rfl ?_
    refine xgetC 24 hH ⟨u57, _, rfl⟩ rfl (by decide) (by decide) rfl rfl (by decide) (fun z21 h21 => ?_)
    refine xcmp_ge 27 ⟨u57, _, rfl⟩ rfl (fun c24 => ?_) (fun c24 => ?_)
    · omega
    · refine xald 28 ⟨u57, _, rfl⟩ rfl rfl ?_
      refine xild 29 ⟨u57, _, rfl⟩ rfl rfl ?_
      refine xcallC 32 (o := 3) [.int _] [] hH ⟨u57, _, rfl⟩ rfl rfl (by decide) rfl (by decide) rfl ⟨rfl, rfl, rfl, rfl⟩ rfl (k_setL hH hL (t := i) (by omega) (by omega) (fun z29 h29 => ⟨_, rfl, ?_⟩))
      refine xald 33 ⟨u57, _, rfl⟩ rfl rfl ?_
      refine xild 34 ⟨u57, _, rfl⟩ rfl rfl ?_
      refine xcallC 37 (o := 3) [.int _] [.int _] hH ⟨u57, _, rfl⟩ rfl rfl (by decide) rfl (by decide) rfl ⟨rfl, rfl, rfl, rfl⟩ rfl (k_setL hH hL (t := j) (by omega) (by omega) (fun z34 h34 => ⟨_, rfl, ?_⟩))
      refine xand 38 ⟨u57, _, rfl⟩ rfl ?_
      refine xif_eq 41 ⟨u57, _, rfl⟩ rfl (fun c38 => ?_) (fun c38 => ?_)
      · have w37 := (i_and h29 h34 mi.1).1
        refine xcst 46 (0) ⟨u57, _, rfl⟩ rfl (by decide) (fun z45 h45 => ?_)
        refine xist2 48 ⟨u57, _, rfl⟩ rfl rfl ?_
        refine xald 49 ⟨u57, _, rfl⟩ rfl rfl ?_
        refine xild 50 ⟨u57, _, rfl⟩ rfl rfl ?_
        refine xcallC 53 (o := 3) [.int _] [] hH ⟨u57, _, rfl⟩ rfl rfl (by decide) rfl (by decide) rfl ⟨rfl, rfl, rfl, rfl⟩ rfl (k_setL hH hL (t := i) (by omega) (by omega) (fun z50 h50 => ⟨_, rfl, ?_⟩))
        refine xald 54 ⟨u57, _, rfl⟩ rfl rfl ?_
        refine xild 55 ⟨u57, _, rfl⟩ rfl rfl ?_
        refine xcallC 58 (o := 3) [.int _] [.int _] hH ⟨u57, _, rfl⟩ rfl rfl (by decide) rfl (by decide) rfl ⟨rfl, rfl, rfl, rfl⟩ rfl (k_setL hH hL (t := j) (by omega) (by omega) (fun z55 h55 => ⟨_, rfl, ?_⟩))
        refine xxor 59 ⟨u57, _, rfl⟩ rfl ?_
        refine xist2 61 ⟨u57, _, rfl⟩ rfl rfl ?_
        refine xild 62 ⟨u57, _, rfl⟩ rfl rfl ?_
        refine xcst 63 (1) ⟨u57, _, rfl⟩ rfl (by decide) (fun z62 h62 => ?_)
        refine xadd 64 _ ⟨u57, _, rfl⟩ rfl rfl (by omega) (by omega) (fun z63 h63 => ?_)
        refine xist2 66 ⟨u57, _, rfl⟩ rfl rfl ?_
        have w58 := (i_xor h50 h55 mi.1 mj.1).1
        refine l57z hB0 hL0 H105 hwi hwj hij (by omega) h45 (by omega) (fun hp1 wk1 v71 v81 k1 k2 k3 => ?_) _ hp _ _ (by omega) hH hF hN
        refine xinc 152 (1) ⟨u57, _, rfl⟩ rfl rfl rfl (by decide) (by omega) (by omega) (fun z149 h149 => ?_)
        refine xgoto ⟨u57, _, rfl⟩ ?_
        exact ih (j + 1) _ hp1 _ _ _ _ _ (by omega) (by omega) (by omega) k1 k2 k3
      · have w37 := (i_and h29 h34 mi.1).1
        refine xcst 42 (1) ⟨u57, _, rfl⟩ rfl (by decide) (fun z41 h41 => ?_)
        refine xgoto ⟨u57, _, rfl⟩ ?_
        refine xist2 48 ⟨u57, _, rfl⟩ rfl rfl ?_
        refine xald 49 ⟨u57, _, rfl⟩ rfl rfl ?_
        refine xild 50 ⟨u57, _, rfl⟩ rfl rfl ?_
        refine xcallC 53 (o := 3) [.int _] [] hH ⟨u57, _, rfl⟩ rfl rfl (by decide) rfl (by decide) rfl ⟨rfl, rfl, rfl, rfl⟩ rfl (k_setL hH hL (t := i) (by omega) (by omega) (fun z50 h50 => ⟨_, rfl, ?_⟩))
        refine xald 54 ⟨u57, _, rfl⟩ rfl rfl ?_
        refine xild 55 ⟨u57, _, rfl⟩ rfl rfl ?_
        refine xcallC 58 (o := 3) [.int _] [.int _] hH ⟨u57, _, rfl⟩ rfl rfl (by decide) rfl (by decide) rfl ⟨rfl, rfl, rfl, rfl⟩ rfl (k_setL hH hL (t := j) (by omega) (by omega) (fun z55 h55 => ⟨_, rfl, ?_⟩))
        refine xxor 59 ⟨u57, _, rfl⟩ rfl ?_
        refine xist2 61 ⟨u57, _, rfl⟩ rfl rfl ?_
        refine xild 62 ⟨u57, _, rfl⟩ rfl rfl ?_
        refine xcst 63 (1) ⟨u57, _, rfl⟩ rfl (by decide) (fun z62 h62 => ?_)
        refine xadd 64 _ ⟨u57, _, rfl⟩ rfl rfl (by omega) (by omega) (fun z63 h63 => ?_)
        refine xist2 66 ⟨u57, _, rfl⟩ rfl rfl ?_
        have w58 := (i_xor h50 h55 mi.1 mj.1).1
        refine l57k hB0 hL0 H105 hwi hwj hij (by omega) h41 w58 (by omega) (fun hp1 wk1 v71 v81 k1 k2 k3 => ?_) ((trL T 225).length - (j + 1)) (j + 1) _ hp _ _ (by omega) (by omega) (by omega) hH hF (qdN_to hN (fL_no (by omega) (fun c c1 c2 => qd_no (by omega))))
        refine xinc 152 (1) ⟨u57, _, rfl⟩ rfl rfl rfl (by decide) (by omega) (by omega) (fun z149 h149 => ?_)
        refine xgoto ⟨u57, _, rfl⟩ ?_
        exact ih (j + 1) _ hp1 _ _ _ _ _ (by omega) (by omega) (by omega) k1 k2 k3
theorem l57i {d V : Nat} {T : sT} {hp0 : amH} {R : xQ} (hB0 : bdOk hp0 3 V T) (hL0 : lsN hp0 3 T 225) (H105 : (fL (qdB T) 42875).length ≤ 105) (hR : ∀ hp1, bHk 84 bTT hp1 → bFx [49, 50, 51] hp0 hp1 → qdN hp1 T 42875 → R (.inl none) hp1) :
    ∀ (ii i : Nat) (wi : Int32) (hp : amH) (v3 v4 v5 v6 v7 v8 : Option Value), wi.toInt = (i : Int) → i + ii = (trL T 225).length → bHk 84 bTT hp → bFx [49, 50, 51] hp0 hp → qdN hp T (1225 * i) → xV (d + 4) am_m57 7 [some (.ref 49), some (.ref 3), some (.int wi), v3, v4, v5, v6, v7, v8] [] hp R := by
  intro ii
  induction ii with
  | zero =>
    intro i wi hp v3 v4 v5 v6 v7 v8 hwi hi hH hF hN
    have hB : bdOk hp 3 V T := bdOk_fr hB0 (bFx_n hF (by simp)) (fun _ => bFx_n hF (by simp)) (fun _ => bFx_n hF (by simp))
    have hL : lsN hp 3 T 225 := lsN_fr hL0 (bFx_n hF (by simp)) (fun _ => bFx_n hF (by simp)) (fun _ => bFx_n hF (by simp))
    have L1 := hL.1
    have l35 := trL_35 hB.2.1 225
    refine xild 8 ⟨u57, _, rfl⟩ rfl rfl ?_
    refine xald 9 ⟨u57, _, rfl⟩ rfl rfl ?_
    refine xgetC 12 hH ⟨u57, _, rfl⟩ rfl (by decide) (by decide) rfl rfl (by decide) (fun z9 h9 => ?_)
    refine xcmp_ge 15 ⟨u57, _, rfl⟩ rfl (fun c12 => ?_) (fun c12 => ?_)
    · exact xretV ⟨u57, _, rfl⟩ rfl (hR hp hH hF (qdN_to hN (fL_no (by omega) (fun c c1 c2 => qd_no (by omega)))))
    · omega
  | succ ii ih =>
    intro i wi hp v3 v4 v5 v6 v7 v8 hwi hi hH hF hN
    have hB : bdOk hp 3 V T := bdOk_fr hB0 (bFx_n hF (by simp)) (fun _ => bFx_n hF (by simp)) (fun _ => bFx_n hF (by simp))
    have hL : lsN hp 3 T 225 := lsN_fr hL0 (bFx_n hF (by simp)) (fun _ => bFx_n hF (by simp)) (fun _ => bFx_n hF (by simp))
    have L1 := hL.1
    have l35 := trL_35 hB.2.1 225
    refine xild 8 ⟨u57, _, rfl⟩ rfl rfl ?_
    refine xald 9 ⟨u57, _, rfl⟩ rfl rfl ?_
    refine xgetC 12 hH ⟨u57, _, rfl⟩ rfl (by decide) (by decide) rfl rfl (by decide) (fun z9 h9 => ?_)
    refine xcmp_ge 15 ⟨u57, _, rfl⟩ rfl (fun c12 => ?_) (fun c12 => ?_)
    · omega
    · refine xild 16 ⟨u57, _, rfl⟩ rfl rfl ?_
      refine xcst 17 (1) ⟨u57, _, rfl⟩ rfl (by decide) (fun z16 h16 => ?_)
      refine xadd 18 _ ⟨u57, _, rfl⟩ rfl rfl (by omega) (by omega) (fun z17 h17 => ?_)
      refine xist 19 ⟨u57, _, rfl⟩ rfl rfl ?_
      refine l57j hB0 hL0 H105 hwi (by omega) (fun hp1 wj1 v41 v51 v61 v71 v81 k1 k2 k3 => ?_) ((trL T 225).length - (i + 1)) (i + 1) _ hp _ _ _ _ _ (by omega) (by omega) (by omega) hH hF (qdN_to hN (fL_no (by omega) (fun c c1 c2 => qd_no (by omega))))
      refine xinc 158 (1) ⟨u57, _, rfl⟩ rfl rfl rfl (by decide) (by omega) (by omega) (fun z155 h155 => ?_)
      refine xgoto ⟨u57, _, rfl⟩ ?_
      exact ih (i + 1) _ hp1 _ _ _ _ _ _ (by omega) (by omega) k1 k2 k3
theorem k_gath {d V : Nat} {T : sT} {hp : amH} {R : xQ} (hH : bHk 84 bTT hp) (hB : bdOk hp 3 V T) (hL : lsN hp 3 T 225) (H105 : (fL (qdB T) 42875).length ≤ 105) (hR : ∀ hp1, bHk 84 bTT hp1 → bFx [49, 50, 51] hp hp1 → qdN hp1 T 42875 → R (.inl none) hp1) : xK (d + 4) 57 [.ref 49, .ref 3] hp R := by
  refine xin (M := am_m57) rfl rfl rfl ?_
  refine xald 1 ⟨u57, _, rfl⟩ rfl rfl ?_
  refine xcst 2 (0) ⟨u57, _, rfl⟩ rfl (by decide) (fun z1 h1 => ?_)
  refine xputC 5 hH ⟨u57, _, rfl⟩ rfl (by decide) (by decide) rfl rfl (by decide) ⟨rfl, rfl⟩ (by omega) (by omega) (fun hp2 hH2 U2 => ?_)
  have s2 := U2.1
  refine xcst 6 (0) ⟨u57, _, rfl⟩ rfl (by decide) (fun z5 h5 => ?_)
  refine xist 7 ⟨u57, _, rfl⟩ rfl rfl ?_
  have F2 : bFx [49, 50, 51] hp hp2 := bFx_U U2 (by simp)
  refine xpad 6 ?_
  exact l57i (bdOk_fr hB (bFx_n F2 (by simp)) (fun _ => bFx_n F2 (by simp)) (fun _ => bFx_n F2 (by simp))) (lsN_fr hL (bFx_n F2 (by simp)) (fun _ => bFx_n F2 (by simp)) (fun _ => bFx_n F2 (by simp))) H105 (fun hp1 g1 g2 g3 => hR hp1 g1 (F2.trans g2) g3) (trL T 225).length 0 _ hp2 _ _ _ _ _ _ (by omega) (by omega) hH2 bFx.refl ⟨by rw [U2.1]; exact h1, fun q hq => absurd hq (Nat.not_lt_zero q)⟩
