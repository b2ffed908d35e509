theorem l216kE {d i j V : Nat} {T : sT} {hp0 : amH} {R : xQ} {wi wj : Int32} (hB0 : rdOk hp0 V T) (hL0 : rlN hp0 T 225) (H105 : (fL (qdB T) 42875).length ≤ 105) (hwi : wi.toInt = (i : Int)) (hwj : wj.toInt = (j : Int)) (hij : i < j) (hjl : j < (trL T 225).length) (hmt : ¬ mN T i &&& mN T j = 0)
    (hQ : ∀ hp (v3 v4 v5 : Option Value), bHk 84 bTT hp → bFr wRq hp0 hp → rqN hp T (1225 * i + 35 * (j + 1)) → xV (d + 4) am_m216 126 [some (.ref 66), some (.int wi), some (.int wj), v3, v4, v5] [] hp R) :
    ∀ (jj k : Nat) (wk : Int32) (hp : amH) (v4 v5 : Option Value), wk.toInt = (k : Int) → j < k → k + jj = (trL T 225).length → bHk 84 bTT hp → bFr wRq hp0 hp → rqN hp T (1225 * i + 35 * j + k) → xV (d + 4) am_m216 54 [some (.ref 66), some (.int wi), some (.int wj), some (.int wk), v4, v5] [] hp R := by
  intro jj
  induction jj with
  | zero =>
    intro k wk hp v4 v5 hwk hjk hk hH hF hN
    have hB : rdOk hp V T := rdOk_fr hB0 (fun _ => r_fr hF rfl)
    have hL : rlN hp T 225 := rlN_fr hL0 (r_fr hF rfl) (fun _ => r_fr hF rfl) (fun _ => r_fr hF rfl) (fun _ => r_fr hF rfl) (fun _ => r_fr hF rfl)
    have L1 := hL.1
    have l35 := trL_35 hB.2.1 225
    have LM : ∀ t, t < (trL T 225).length → rN hp 75 t = ((mN T t : Nat) : Int) := fun t ht => (hL.2 t ht).2.2.2
    refine xild 55 ⟨u216, _, rfl⟩ rfl rfl ?_
    refine xald 56 ⟨u216, _, rfl⟩ rfl rfl ?_
    refine xgetI 59 hH ⟨u216, _, rfl⟩ rfl rfl (fun z56 h56 => ?_)
    refine xcmp_ge 62 ⟨u216, _, rfl⟩ rfl (fun c59 => ?_) (fun c59 => ?_)
    · exact hQ hp _ _ _ hH hF (rqN_to hN (fL_no (by omega) (fun c c1 c2 => qd_no (by omega))))
    · omega
  | succ jj ih =>
    intro k wk hp v4 v5 hwk hjk hk hH hF hN
    have hB : rdOk hp V T := rdOk_fr hB0 (fun _ => r_fr hF rfl)
    have hL : rlN hp T 225 := rlN_fr hL0 (r_fr hF rfl) (fun _ => r_fr hF rfl) (fun _ => r_fr hF rfl) (fun _ => r_fr hF rfl) (fun _ => r_fr hF rfl)
    have L1 := hL.1
    have l35 := trL_35 hB.2.1 225
    have LM : ∀ t, t < (trL T 225).length → rN hp 75 t = ((mN T t : Nat) : Int) := fun t ht => (hL.2 t ht).2.2.2
    have mi := mN_lt hB.2.1 (show i < (trL T 225).length by omega)
    have mj := mN_lt hB.2.1 (show j < (trL T 225).length by omega)
    have mk := mN_lt hB.2.1 (show k < (trL T 225).length by omega)
    have x2 : mN T i ^^^ mN T j < 32768 := Nat.xor_lt_two_pow (n := 15) (by omega) (by omega)
    have hn : qR T (1225 * i + 35 * j + k) = mN T i ^^^ mN T j ^^^ mN T k := by
      unfold qR
      rw [show (1225 * i + 35 * j + k) / 1225 = i by omega, show (1225 * i + 35 * j + k) / 35 % 35 = j by omega, show (1225 * i + 35 * j + k) % 35 = k by omega]
    have hqd : qdB T (1225 * i + 35 * j + k) = true ↔ (k : Int) < nmT T (mN T i ^^^ mN T j ^^^ mN T k) := by
      unfold qdB
      rw [decide_eq_true_iff, hn, show (1225 * i + 35 * j + k) / 1225 = i by omega, show (1225 * i + 35 * j + k) / 35 % 35 = j by omega, show (1225 * i + 35 * j + k) % 35 = k by omega]
      exact ⟨fun z => z.2.2.2.2, fun z => ⟨hij, hjk, by omega, hmt, z⟩⟩
    refine xild 55 ⟨u216, _, rfl⟩ rfl rfl ?_
    refine xald 56 ⟨u216, _, rfl⟩ rfl rfl ?_
    refine xgetI 59 hH ⟨u216, _, rfl⟩ rfl rfl (fun z56 h56 => ?_)
    refine xcmp_ge 62 ⟨u216, _, rfl⟩ rfl (fun c59 => ?_) (fun c59 => ?_)
    · omega
    · refine xald 63 ⟨u216, _, rfl⟩ rfl rfl ?_
      refine xgetR 66 75 hH ⟨u216, _, rfl⟩ rfl rfl ?_
      refine xild 67 ⟨u216, _, rfl⟩ rfl rfl ?_
      refine xiald 68 (wi).toInt.toNat hH ⟨u216, _, rfl⟩ rfl (by decide) rfl (by omega) (by omega) (fun z67 h67 => ?_)
      refine xald 69 ⟨u216, _, rfl⟩ rfl rfl ?_
      refine xgetR 72 75 hH ⟨u216, _, rfl⟩ rfl rfl ?_
      refine xild 73 ⟨u216, _, rfl⟩ rfl rfl ?_
      refine xiald 74 (wj).toInt.toNat hH ⟨u216, _, rfl⟩ rfl (by decide) rfl (by omega) (by omega) (fun z73 h73 => ?_)
      refine xxor 75 ⟨u216, _, rfl⟩ rfl ?_
      refine xald 76 ⟨u216, _, rfl⟩ rfl rfl ?_
      refine xgetR 79 75 hH ⟨u216, _, rfl⟩ rfl rfl ?_
      refine xild 80 ⟨u216, _, rfl⟩ rfl rfl ?_
      refine xiald 81 (wk).toInt.toNat hH ⟨u216, _, rfl⟩ rfl (by decide) rfl (by omega) (by omega) (fun z80 h80 => ?_)
      refine xxor 82 ⟨u216, _, rfl⟩ rfl ?_
      have a1 : z67.toInt = ((mN T i : Nat) : Int) := by rw [h67, show wi.toInt.toNat = i by omega]; exact LM i (by omega)
      have a2 : z73.toInt = ((mN T j : Nat) : Int) := by rw [h73, show wj.toInt.toNat = j by omega]; exact LM j (by omega)
      have a3 : z80.toInt = ((mN T k : Nat) : Int) := by rw [h80, show wk.toInt.toNat = k by omega]; exact LM k (by omega)
      have w1 := i_xor a1 a2 mi.1 mj.1
      have w88 := i_xor w1.1 a3 w1.2 mk.1
      refine xist2 84 ⟨u216, _, rfl⟩ rfl rfl ?_
      refine xald 85 ⟨u216, _, rfl⟩ rfl rfl ?_
      refine xild2 87 ⟨u216, _, rfl⟩ rfl rfl ?_
      refine xcall 90 [.ref 66, .int _] [] hH ⟨u216, _, rfl⟩ rfl rfl rfl rfl rfl (k_rist hH hB w88.1 w88.2 (fun z87 h87 => ⟨_, rfl, ?_⟩))
      refine xif_eq 93 ⟨u216, _, rfl⟩ rfl (fun c90 => ?_) (fun c90 => ?_)
      · refine xcst 103 (-1) ⟨u216, _, rfl⟩ rfl (by decide) (fun z102 h102 => ?_)
        refine xist2 105 ⟨u216, _, rfl⟩ rfl rfl ?_
        refine xild2 107 ⟨u216, _, rfl⟩ rfl rfl ?_
        refine xild 108 ⟨u216, _, rfl⟩ rfl rfl ?_
        refine xcmp_le 111 ⟨u216, _, rfl⟩ rfl (fun c108 => ?_) (fun c108 => ?_)
        · refine xinc 123 (1) ⟨u216, _, rfl⟩ rfl rfl rfl (by decide) (by omega) (by omega) (fun z120 h120 => ?_)
          refine xgoto ⟨u216, _, rfl⟩ ?_
          exact ih (k + 1) _ hp _ _ (by omega) (by omega) (by omega) hH hF (rqN_to hN (fL_skip (fun z => by have := hqd.mp z; omega)))
        · omega
      · refine xald 94 ⟨u216, _, rfl⟩ rfl rfl ?_
        refine xild2 96 ⟨u216, _, rfl⟩ rfl rfl ?_
        refine xcall 99 [.ref 66, .int _] [] hH ⟨u216, _, rfl⟩ rfl rfl rfl rfl rfl (k_rnof hH hB hL w88.1 (fun z96 h96 => ⟨_, rfl, ?_⟩))
        refine xgoto ⟨u216, _, rfl⟩ ?_
        refine xist2 105 ⟨u216, _, rfl⟩ rfl rfl ?_
        refine xild2 107 ⟨u216, _, rfl⟩ rfl rfl ?_
        refine xild 108 ⟨u216, _, rfl⟩ rfl rfl ?_
        refine xcmp_le 111 ⟨u216, _, rfl⟩ rfl (fun c108 => ?_) (fun c108 => ?_)
        · refine xinc 123 (1) ⟨u216, _, rfl⟩ rfl rfl rfl (by decide) (by omega) (by omega) (fun z120 h120 => ?_)
          refine xgoto ⟨u216, _, rfl⟩ ?_
          exact ih (k + 1) _ hp _ _ (by omega) (by omega) (by omega) hH hF (rqN_to hN (fL_skip (fun z => by have := hqd.mp z; omega)))
        · obtain ⟨l, l1, el⟩ : ∃ t : Nat, t < (trL T 225).length ∧ nmT T (mN T i ^^^ mN T j ^^^ mN T k) = (t : Int) := by
            rcases nm_lt (T := T) (mN T i ^^^ mN T j ^^^ mN T k) with g | g
            · omega
            · exact g
          have hl : Int32.toInt z96 = (l : Int) := by omega
          have qb : qdB T (1225 * i + 35 * j + k) = true := hqd.mpr (by omega)
          have hm5 : (fL (qdB T) (1225 * i + 35 * j + k + 1)).length ≤ 105 := Nat.le_trans (fL_le (by omega)) H105
          refine xald 112 ⟨u216, _, rfl⟩ rfl rfl ?_
          refine xild 113 ⟨u216, _, rfl⟩ rfl rfl ?_
          refine xild 114 ⟨u216, _, rfl⟩ rfl rfl ?_
          refine xild 115 ⟨u216, _, rfl⟩ rfl rfl ?_
          refine xild2 117 ⟨u216, _, rfl⟩ rfl rfl ?_
          refine xcall 120 [.ref 66, .int _, .int _, .int _, .int _] [] hH ⟨u216, _, rfl⟩ rfl rfl rfl rfl rfl (k_adq hH hN qb hm5 hwi hwj hwk (l := l) hl (by omega) (by omega) (by omega) (by rw [hn]; exact el) (by omega) (by omega) (by omega) (by omega) (fun hp117 hH117 F117 Q117 => ⟨_, rfl, ?_⟩))
          refine xinc 123 (1) ⟨u216, _, rfl⟩ rfl rfl rfl (by decide) (by omega) (by omega) (fun z120 h120 => ?_)
          refine xgoto ⟨u216, _, rfl⟩ ?_
          exact ih (k + 1) _ hp117 _ _ (by omega) (by omega) (by omega) hH117 (hF.trans F117) Q117
