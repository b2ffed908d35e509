/-! ##### 19.m.095.40f ##### -/
section
/-! ===== the class switches along a cycle ===== -/
theorem u43 : bUp 0 am_m43.1 = true := by decide +kernel
theorem u44 : bUp 0 am_m44.1 = true := by decide +kernel
theorem u181 : bUp 0 am_m181.1 = true := by decide +kernel
theorem u143 : bUp 0 am_m143.1 = true := by decide +kernel
theorem l43 {d B c : Nat} {hp : amH} {R : xQ} {g : Nat → Nat} {a we : Int32} (hH : bHk 84 bTT hp) (hwe : we.toInt = ((B + c : Nat) : Int)) (hBc : B + c ≤ 15) (hf : ∀ k, k < c → rJ hp 55 (B + k) = ((2 ^ g k : Nat) : Int))
    (hR : ∀ (z : Int64) (X : Nat), z.toInt = (X : Int) → (∀ u, X.testBit u = true ↔ ∃ k, k < c ∧ g k = u) → R (.inl (some (.long z))) hp) :
    ∀ (jj k X : Nat) (w : Int64) (wt : Int32), wt.toInt = ((B + k : Nat) : Int) → k + jj = c → w.toInt = (X : Int) → (∀ u, X.testBit u = true ↔ ∃ j, j < k ∧ g j = u) → xV (d + 1) am_m43 18 [some (.ref 52), some (.int a), some (.long w), none, some (.int we), some (.int wt)] [] hp R := by
  intro jj
  induction jj with
  | zero =>
    intro k X w wt hwt hj hw hm
    have ek : k = c := by omega
    rw [ek] at hm
    refine xild2 20 ⟨u43, _, rfl⟩ rfl rfl ?_
    refine xild2 22 ⟨u43, _, rfl⟩ rfl rfl ?_
    refine xcmp_ge 25 ⟨u43, _, rfl⟩ rfl (fun c22 => ?_) (fun c22 => ?_)
    · refine xlld 52 ⟨u43, _, rfl⟩ rfl rfl ?_
      exact xretJ ⟨u43, _, rfl⟩ rfl (hR _ X hw hm)
    · omega
  | succ jj ih =>
    intro k X w wt hwt hj hw hm
    have hk := hf k (by omega)
    refine xild2 20 ⟨u43, _, rfl⟩ rfl rfl ?_
    refine xild2 22 ⟨u43, _, rfl⟩ rfl rfl ?_
    refine xcmp_ge 25 ⟨u43, _, rfl⟩ rfl (fun c22 => ?_) (fun c22 => ?_)
    · omega
    · refine xild2 27 ⟨u43, _, rfl⟩ rfl rfl ?_
      refine xald 28 ⟨u43, _, rfl⟩ rfl rfl ?_
      refine xgetD 31 (55) hH ⟨u43, _, rfl⟩ rfl (by decide) (by decide) rfl rfl (by decide) ?_
      refine xlen 32 hH ⟨u43, _, rfl⟩ rfl (by decide) rfl (by decide) (by decide) (fun z31 h31 => ?_)
      refine xcmp_ge 35 ⟨u43, _, rfl⟩ rfl (fun c32 => ?_) (fun c32 => ?_)
      · omega
      · refine xlld 36 ⟨u43, _, rfl⟩ rfl rfl ?_
        refine xald 37 ⟨u43, _, rfl⟩ rfl rfl ?_
        refine xgetD 40 (55) hH ⟨u43, _, rfl⟩ rfl (by decide) (by decide) rfl rfl (by decide) ?_
        refine xild2 42 ⟨u43, _, rfl⟩ rfl rfl ?_
        refine xlald 43 (wt).toInt.toNat hH ⟨u43, _, rfl⟩ rfl (by decide) rfl (by omega) (by omega) (fun z42 h42 => ?_)
        rw [show wt.toInt.toNat = B + k by omega, hk] at h42
        have o1 := j_or hw h42
        refine xlor 44 ⟨u43, _, rfl⟩ rfl ?_
        refine xlst 45 ⟨u43, _, rfl⟩ rfl rfl ?_
        refine xinc 48 (1) ⟨u43, _, rfl⟩ rfl rfl rfl (by decide) (by omega) (by omega) (fun z45 h45 => ?_)
        refine xgoto ⟨u43, _, rfl⟩ ?_
        exact ih (k + 1) (X ||| 2 ^ g k) (w ||| z42) z45 (by omega) (by omega) o1 (fun u => by
          rw [Nat.testBit_or, Nat.testBit_two_pow, Bool.or_eq_true, hm u, decide_eq_true_iff]
          constructor
          · rintro (⟨j, j1, j2⟩ | e)
            · exact ⟨j, by omega, j2⟩
            · exact ⟨k, by omega, e⟩
          · rintro ⟨j, j1, j2⟩
            by_cases q : j = k
            · rw [q] at j2; exact Or.inr j2
            · exact Or.inl ⟨j, by omega, j2⟩)
theorem k_trC {d q B c : Nat} {hp : amH} {R : xQ} {g : Nat → Nat} {a : Int32} (hH : bHk 84 bTT hp) (ha : a.toInt = (q : Int)) (hq : q < 3) (e1 : rN hp 53 q = (B : Int)) (e2 : rN hp 53 (q + 1) = ((B + c : Nat) : Int)) (hBc : B + c ≤ 15) (hf : ∀ k, k < c → rJ hp 55 (B + k) = ((2 ^ g k : Nat) : Int))
    (hR : ∀ (z : Int64) (X : Nat), z.toInt = (X : Int) → (∀ u, X.testBit u = true ↔ ∃ k, k < c ∧ g k = u) → R (.inl (some (.long z))) hp) : xK (d + 1) 43 [.ref 52, .int a] hp R := by
  refine xin (M := am_m43) rfl rfl rfl ?_
  refine xlcst 1 (0) ⟨u43, _, rfl⟩ rfl (by decide) (fun z0 h0 => ?_)
  refine xlst 2 ⟨u43, _, rfl⟩ rfl rfl ?_
  refine xald 3 ⟨u43, _, rfl⟩ rfl rfl ?_
  refine xild 4 ⟨u43, _, rfl⟩ rfl rfl ?_
  refine xcst 5 (1) ⟨u43, _, rfl⟩ rfl (by decide) (fun z4 h4 => ?_)
  refine xadd 6 _ ⟨u43, _, rfl⟩ rfl rfl (by omega) (by omega) (fun z5 h5 => ?_)
  refine xcallC 9 (o := 52) [.int _] [] hH ⟨u43, _, rfl⟩ rfl rfl (by decide) rfl (by decide) rfl ⟨rfl, rfl, rfl, rfl⟩ rfl (k_bgn hH (n := q + 1) (by omega) (by omega) (fun z6 h6 => ⟨_, rfl, ?_⟩))
  refine xist2 11 ⟨u43, _, rfl⟩ rfl rfl ?_
  refine xald 12 ⟨u43, _, rfl⟩ rfl rfl ?_
  refine xild 13 ⟨u43, _, rfl⟩ rfl rfl ?_
  refine xcallC 16 (o := 52) [.int _] [] hH ⟨u43, _, rfl⟩ rfl rfl (by decide) rfl (by decide) rfl ⟨rfl, rfl, rfl, rfl⟩ rfl (k_bgn hH ha (by omega) (fun z13 h13 => ⟨_, rfl, ?_⟩))
  refine xist2 18 ⟨u43, _, rfl⟩ rfl rfl ?_
  exact l43 (B := B) (c := c) hH (h6.trans e2) hBc hf hR c 0 0 _ _ (by omega) (by omega) h0 (fun u => by
    rw [Nat.zero_testBit]
    exact ⟨fun z => (by cases z), fun ⟨j, j1, _⟩ => absurd j1 (Nat.not_lt_zero j)⟩)
theorem cyA_s {T : sT} {a b x k : Nat} : cyA T a b x (k + 1) = cyA T a b x k ++ [mA T a b x k] := by unfold cyA; rw [List.range_succ, List.map_append]; rfl
theorem cyC_s {T : sT} {a b x k : Nat} : cyC T a b x (k + 1) = cyC T a b x k ++ [mB T a b x k] := by unfold cyC; rw [List.range_succ, List.map_append]; rfl
theorem cyA_l {T : sT} {a b x k : Nat} : (cyA T a b x k).length = k := by unfold cyA; rw [List.length_map, List.length_range]
theorem l44 {d V q a b x B : Nat} {T : sT} {hp0 : amH} {R : xQ} {wq wl : Int32} (hT : sOk V T) (aV : a < V) (bV : b < V) (hx : x < V) (ho : offP T a b x) (hp : 0 < cyL T a b x) (h12 : cyL T a b x ≤ 12) (hwq : wq.toInt = (q : Int)) (hq : q < 3) (hwl : wl.toInt = ((cyL T a b x : Nat) : Int)) (e1 : rN hp0 52 1 = (a : Int)) (e2 : rN hp0 52 2 = (b : Int)) (e3 : rN hp0 53 q = (B : Int)) (hB : B + cyL T a b x ≤ 15) (hf : ∀ k, k < cyL T a b x → rN hp0 54 (B + k) = ((rk T a b x k : Nat) : Int))
    (hR : ∀ hp1, bHk 84 bTT hp1 → bFx [62, 63, 64] hp0 hp1 → exO hp1 (cyA T a b x (cyL T a b x)) (cyC T a b x (cyL T a b x)) → rJ hp1 62 1 = rJ hp0 62 1 → R (.inl none) hp1) :
    ∀ (jj k : Nat) (wk : Int32) (v5 v6 v7 v8 : Option Value) (hp : amH), wk.toInt = (k : Int) → k + jj = cyL T a b x → bHk 84 bTT hp → bFx [62, 63, 64] hp0 hp → exO hp (cyA T a b x k) (cyC T a b x k) → rJ hp 62 1 = rJ hp0 62 1 → xV (d + 2) am_m44 18 [some (.ref 52), some (.int wq), some (.ref 62), some (.int wl), some (.int wk), v5, v6, v7, v8] [] hp R := by
  have hV := hT.2.1
  intro jj
  induction jj with
  | zero =>
    intro k wk v5 v6 v7 v8 hp hwk hj hH hF hE hJ
    have ek : k = cyL T a b x := by omega
    rw [ek] at hE
    refine xild2 20 ⟨u44, _, rfl⟩ rfl rfl ?_
    refine xild 21 ⟨u44, _, rfl⟩ rfl rfl ?_
    refine xcmp_ge 24 ⟨u44, _, rfl⟩ rfl (fun c21 => ?_) (fun c21 => ?_)
    · exact xretV ⟨u44, _, rfl⟩ rfl (hR _ hH hF hE hJ)
    · omega
  | succ jj ih =>
    intro k wk v5 v6 v7 v8 hp' hwk hj hH hF hE hJ
    obtain ⟨f1, f2, f3⟩ := cy_f hT hx ho hp k
    obtain ⟨g1, g2, g3⟩ := cy_f hT hx ho hp (k + 1)
    have q1 : rN hp' 52 1 = (a : Int) := (bFx_n hF (by simp)).trans e1
    have q2 : rN hp' 52 2 = (b : Int) := (bFx_n hF (by simp)).trans e2
    have q3 : rN hp' 53 q = (B : Int) := (bFx_n hF (by simp)).trans e3
    have q4 : ∀ k, k < cyL T a b x → rN hp' 54 (B + k) = ((rk T a b x k : Nat) : Int) := fun k hk => (bFx_n hF (by simp)).trans (hf k hk)
    have rest : ∀ z28 z51 : Int32, z28.toInt = ((rk T a b x k : Nat) : Int) → z51.toInt = ((rk T a b x (k + 1) : Nat) : Int) → xV (d + 2) am_m44 54 [some (.ref 52), some (.int wq), some (.ref 62), some (.int wl), some (.int wk), some (.int z28), v6, v7, v8] [.int z51] hp' R := by
      intro z28 z51 h28 h51
      refine xist2 56 ⟨u44, _, rfl⟩ rfl rfl ?_
      refine xild2 58 ⟨u44, _, rfl⟩ rfl rfl ?_
      refine xcst 59 (2) ⟨u44, _, rfl⟩ rfl (by decide) (fun z58 h58 => ?_)
      refine xrem 60 (Int32.toInt wk % 2) ⟨u44, _, rfl⟩ rfl (by omega) (by omega) (by rw [h58]) (fun z59 h59 => ?_)
      refine xif_ne 63 ⟨u44, _, rfl⟩ rfl (fun c60 => ?_) (fun c60 => ?_)
      · refine xald 71 ⟨u44, _, rfl⟩ rfl rfl ?_
        refine xgetC 74 hH ⟨u44, _, rfl⟩ rfl (by decide) (by decide) rfl rfl (by decide) (fun z71 h71 => ?_)
        have s7 : z71.toInt = ((abS a b (pr2 false k) : Nat) : Int) := by
          rw [sAx]
          split <;> omega
        refine xist2 76 ⟨u44, _, rfl⟩ rfl rfl ?_
        refine xild2 78 ⟨u44, _, rfl⟩ rfl rfl ?_
        refine xcst 79 (2) ⟨u44, _, rfl⟩ rfl (by decide) (fun z78 h78 => ?_)
        refine xrem 80 (Int32.toInt wk % 2) ⟨u44, _, rfl⟩ rfl (by omega) (by omega) (by rw [h78]) (fun z79 h79 => ?_)
        refine xif_ne 83 ⟨u44, _, rfl⟩ rfl (fun c80 => ?_) (fun c80 => ?_)
        · refine xald 91 ⟨u44, _, rfl⟩ rfl rfl ?_
          refine xgetC 94 hH ⟨u44, _, rfl⟩ rfl (by decide) (by decide) rfl rfl (by decide) (fun z91 h91 => ?_)
          have s8 : z91.toInt = ((abS a b (!pr2 false k) : Nat) : Int) := by
            rw [sBx]
            split <;> omega
          refine xist2 96 ⟨u44, _, rfl⟩ rfl rfl ?_
          refine xald 97 ⟨u44, _, rfl⟩ rfl rfl ?_
          refine xild2 99 ⟨u44, _, rfl⟩ rfl rfl ?_
          refine xild2 101 ⟨u44, _, rfl⟩ rfl rfl ?_
          refine xild2 103 ⟨u44, _, rfl⟩ rfl rfl ?_
          refine xcallS 106 [.int _, .int _, .int _] [.ref 62] hH ⟨u44, _, rfl⟩ rfl rfl rfl rfl rfl (k_three s7 h28 h51 (by rw [sAx]; split <;> omega) (by omega) (by omega) (fun z103 h103 => ⟨_, rfl, ?_⟩))
          refine xild2 108 ⟨u44, _, rfl⟩ rfl rfl ?_
          refine xild2 110 ⟨u44, _, rfl⟩ rfl rfl ?_
          refine xild2 112 ⟨u44, _, rfl⟩ rfl rfl ?_
          refine xcallS 115 [.int _, .int _, .int _] [.int _, .ref 62] hH ⟨u44, _, rfl⟩ rfl rfl rfl rfl rfl (k_three s8 h28 h51 (by rw [sBx]; split <;> omega) (by omega) (by omega) (fun z112 h112 => ⟨_, rfl, ?_⟩))
          refine xcallC 118 (o := 62) [.int _, .int _] [] hH ⟨u44, _, rfl⟩ rfl rfl (by decide) rfl (by decide) rfl ⟨rfl, rfl, rfl, rfl⟩ rfl (k_exP hH hE (by rw [cyA_l]; omega) h103 h112 (fun hp115 hH115 F115 E115 J115 => ⟨_, rfl, ?_⟩))
          refine xinc 121 (1) ⟨u44, _, rfl⟩ rfl rfl rfl (by decide) (by omega) (by omega) (fun z118 h118 => ?_)
          refine xgoto ⟨u44, _, rfl⟩ ?_
          exact ih (k + 1) z118 _ _ _ _ hp115 (by omega) (by omega) hH115 (hF.trans F115) (by rw [cyA_s, cyC_s]; exact E115) (J115.trans hJ)
        · omega
      · refine xald 64 ⟨u44, _, rfl⟩ rfl rfl ?_
        refine xgetC 67 hH ⟨u44, _, rfl⟩ rfl (by decide) (by decide) rfl rfl (by decide) (fun z64 h64 => ?_)
        refine xgoto ⟨u44, _, rfl⟩ ?_
        have s7 : z64.toInt = ((abS a b (pr2 false k) : Nat) : Int) := by
          rw [sAx]
          split <;> omega
        refine xist2 76 ⟨u44, _, rfl⟩ rfl rfl ?_
        refine xild2 78 ⟨u44, _, rfl⟩ rfl rfl ?_
        refine xcst 79 (2) ⟨u44, _, rfl⟩ rfl (by decide) (fun z78 h78 => ?_)
        refine xrem 80 (Int32.toInt wk % 2) ⟨u44, _, rfl⟩ rfl (by omega) (by omega) (by rw [h78]) (fun z79 h79 => ?_)
        refine xif_ne 83 ⟨u44, _, rfl⟩ rfl (fun c80 => ?_) (fun c80 => ?_)
        · omega
        · refine xald 84 ⟨u44, _, rfl⟩ rfl rfl ?_
          refine xgetC 87 hH ⟨u44, _, rfl⟩ rfl (by decide) (by decide) rfl rfl (by decide) (fun z84 h84 => ?_)
          refine xgoto ⟨u44, _, rfl⟩ ?_
          have s8 : z84.toInt = ((abS a b (!pr2 false k) : Nat) : Int) := by
            rw [sBx]
            split <;> omega
          refine xist2 96 ⟨u44, _, rfl⟩ rfl rfl ?_
          refine xald 97 ⟨u44, _, rfl⟩ rfl rfl ?_
          refine xild2 99 ⟨u44, _, rfl⟩ rfl rfl ?_
          refine xild2 101 ⟨u44, _, rfl⟩ rfl rfl ?_
          refine xild2 103 ⟨u44, _, rfl⟩ rfl rfl ?_
          refine xcallS 106 [.int _, .int _, .int _] [.ref 62] hH ⟨u44, _, rfl⟩ rfl rfl rfl rfl rfl (k_three s7 h28 h51 (by rw [sAx]; split <;> omega) (by omega) (by omega) (fun z103 h103 => ⟨_, rfl, ?_⟩))
          refine xild2 108 ⟨u44, _, rfl⟩ rfl rfl ?_
          refine xild2 110 ⟨u44, _, rfl⟩ rfl rfl ?_
          refine xild2 112 ⟨u44, _, rfl⟩ rfl rfl ?_
          refine xcallS 115 [.int _, .int _, .int _] [.int _, .ref 62] hH ⟨u44, _, rfl⟩ rfl rfl rfl rfl rfl (k_three s8 h28 h51 (by rw [sBx]; split <;> omega) (by omega) (by omega) (fun z112 h112 => ⟨_, rfl, ?_⟩))
          refine xcallC 118 (o := 62) [.int _, .int _] [] hH ⟨u44, _, rfl⟩ rfl rfl (by decide) rfl (by decide) rfl ⟨rfl, rfl, rfl, rfl⟩ rfl (k_exP hH hE (by rw [cyA_l]; omega) h103 h112 (fun hp115 hH115 F115 E115 J115 => ⟨_, rfl, ?_⟩))
          refine xinc 121 (1) ⟨u44, _, rfl⟩ rfl rfl rfl (by decide) (by omega) (by omega) (fun z118 h118 => ?_)
          refine xgoto ⟨u44, _, rfl⟩ ?_
          exact ih (k + 1) z118 _ _ _ _ hp115 (by omega) (by omega) hH115 (hF.trans F115) (by rw [cyA_s, cyC_s]; exact E115) (J115.trans hJ)
    refine xild2 20 ⟨u44, _, rfl⟩ rfl rfl ?_
    refine xild 21 ⟨u44, _, rfl⟩ rfl rfl ?_
    refine xcmp_ge 24 ⟨u44, _, rfl⟩ rfl (fun c21 => ?_) (fun c21 => ?_)
    · omega
    · refine xald 25 ⟨u44, _, rfl⟩ rfl rfl ?_
      refine xild 26 ⟨u44, _, rfl⟩ rfl rfl ?_
      refine xild2 28 ⟨u44, _, rfl⟩ rfl rfl ?_
      refine xcallC 31 (o := 52) [.int _, .int _] [] hH ⟨u44, _, rfl⟩ rfl rfl (by decide) rfl (by decide) rfl ⟨rfl, rfl, rfl, rfl⟩ rfl (k_ptC hH hwq (by omega) hwk (by omega) (by omega) (fun z28 h28 => ⟨_, rfl, ?_⟩))
      rw [show (rN hp' 53 q).toNat + k = B + k by omega, q4 k (by omega)] at h28
      refine xist2 33 ⟨u44, _, rfl⟩ rfl rfl ?_
      refine xald 34 ⟨u44, _, rfl⟩ rfl rfl ?_
      refine xild 35 ⟨u44, _, rfl⟩ rfl rfl ?_
      refine xild2 37 ⟨u44, _, rfl⟩ rfl rfl ?_
      refine xcst 38 (1) ⟨u44, _, rfl⟩ rfl (by decide) (fun z37 h37 => ?_)
      refine xadd 39 _ ⟨u44, _, rfl⟩ rfl rfl (by omega) (by omega) (fun z38 h38 => ?_)
      refine xild 40 ⟨u44, _, rfl⟩ rfl rfl ?_
      refine xcmp_ge 43 ⟨u44, _, rfl⟩ rfl (fun c40 => ?_) (fun c40 => ?_)
      · refine xcst 51 (0) ⟨u44, _, rfl⟩ rfl (by decide) (fun z50 h50 => ?_)
        refine xcallC 54 (o := 52) [.int _, .int _] [] hH ⟨u44, _, rfl⟩ rfl rfl (by decide) rfl (by decide) rfl ⟨rfl, rfl, rfl, rfl⟩ rfl (k_ptC hH hwq (k := 0) (by omega) h50 (by omega) (by omega) (fun z51 h51 => ⟨_, rfl, ?_⟩))
        rw [show (rN hp' 53 q).toNat + 0 = B + 0 by omega, q4 0 hp] at h51
        have ec : k + 1 = cyL T a b x := by omega
        have h51 : z51.toInt = ((rk T a b x (k + 1) : Nat) : Int) := by rw [ec, cy_c hT hp]; exact h51
        exact rest _ _ h28 h51
      · refine xild2 45 ⟨u44, _, rfl⟩ rfl rfl ?_
        refine xcst 46 (1) ⟨u44, _, rfl⟩ rfl (by decide) (fun z45 h45 => ?_)
        refine xadd 47 _ ⟨u44, _, rfl⟩ rfl rfl (by omega) (by omega) (fun z46 h46 => ?_)
        refine xgoto ⟨u44, _, rfl⟩ ?_
        refine xcallC 54 (o := 52) [.int _, .int _] [] hH ⟨u44, _, rfl⟩ rfl rfl (by decide) rfl (by decide) rfl ⟨rfl, rfl, rfl, rfl⟩ rfl (k_ptC hH hwq (k := k + 1) (by omega) (by omega) (by omega) (by omega) (fun z51 h51 => ⟨_, rfl, ?_⟩))
        rw [show (rN hp' 53 q).toNat + (k + 1) = B + (k + 1) by omega, q4 (k + 1) (by omega)] at h51
        exact rest _ _ h28 h51
theorem cyP_hy {hp hp1 : amH} {T : sT} {a b n : Nat} (F : hyF hp hp1) (P : cyP hp T a b n) : cyP hp1 T a b n := by
  obtain ⟨p1, p2, p3, p4, p5⟩ := P
  exact ⟨(hyF_n F (by omega)).trans p1, (hyF_n F (by omega)).trans p2, (hyF_n F (by omega)).trans p3, fun q hq => (hyF_n F (by omega)).trans (p4 q hq), fun q hq k hk => ⟨(hyF_n F (by omega)).trans (p5 q hq k hk).1, (rJ_eq (F 55 _ (by omega))).trans (p5 q hq k hk).2⟩⟩
theorem k_plC {d V q a b x : Nat} {T : sT} {hp : amH} {R : xQ} {wq : Int32} (hH : bHk 84 bTT hp) (hT : sOk V T) (aV : a < V) (bV : b < V) (hP : cyP hp T a b V) (hab : ¬ a = b) (hwq : wq.toInt = (q : Int)) (hq : q < (cyS T a b V).length) (ex : (cyS T a b V).getD q 0 = x)
    (hR : ∀ hp1 (X : Nat), bHk 84 bTT hp1 → bFx [62, 63, 64] hp hp1 → exO hp1 (cyA T a b x (cyL T a b x)) (cyC T a b x (cyL T a b x)) → rJ hp1 62 1 = (X : Int) → (∀ u, X.testBit u = true ↔ u ∈ cyT T a b x (cyL T a b x)) → R (.inl none) hp1) : xK (d + 2) 44 [.ref 52, .int wq, .ref 62] hp R := by
  obtain ⟨p1, p2, p3, p4, p5⟩ := id hP
  obtain ⟨b1, b2⟩ := cyS_get hq
  rw [ex] at b1 b2
  obtain ⟨o1, o2, o3, hp0, -⟩ := (cyB_s hT).mp b1
  obtain ⟨c1, c2, c3, c4⟩ := cyL_s hT hp0
  obtain ⟨y1, y2, y3⟩ := cy_15 (n := V) hT aV bV hab (Nat.le_refl _)
  have f0 := p4 q (by omega)
  have f1 := p4 (q + 1) (by omega)
  have y4 := y3 (q + 1) (by omega)
  rw [offs_s, ex] at f1 y4
  have f5 := p5 q hq
  rw [ex] at f5
  obtain ⟨B, eB⟩ : ∃ B, offs T a b (cyS T a b V) q = B := ⟨_, rfl⟩
  rw [eB] at f0 f1 f5 y4
  refine xin (M := am_m44) rfl rfl rfl ?_
  refine xald 1 ⟨u44, _, rfl⟩ rfl rfl ?_
  refine xald 2 ⟨u44, _, rfl⟩ rfl rfl ?_
  refine xild 3 ⟨u44, _, rfl⟩ rfl rfl ?_
  refine xcallC 6 (o := 52) [.int _] [.ref 62] hH ⟨u44, _, rfl⟩ rfl rfl (by decide) rfl (by decide) rfl ⟨rfl, rfl, rfl, rfl⟩ rfl (k_trC (g := fun k => li T (abS a b (pr2 false k)) (rk T a b x k)) hH hwq (by omega) f0 f1 (by omega) (fun k hk => (f5 k hk).2) (fun z3 X h3 t3 => ⟨_, rfl, ?_⟩))
  refine xcallC 9 (o := 62) [.long _] [] hH ⟨u44, _, rfl⟩ rfl rfl (by decide) rfl (by decide) rfl ⟨rfl, rfl, rfl, rfl⟩ rfl (k_exB hH (fun hp6 hH6 F6 E6 J6 => ⟨_, rfl, ?_⟩))
  have m0 : rN hp6 52 0 = rN hp 52 0 := bFx_n F6 (by simp)
  have m1 : rN hp6 53 q = rN hp 53 q := bFx_n F6 (by simp)
  have m2 : rN hp6 53 (q + 1) = rN hp 53 (q + 1) := bFx_n F6 (by simp)
  refine xald 10 ⟨u44, _, rfl⟩ rfl rfl ?_
  refine xild 11 ⟨u44, _, rfl⟩ rfl rfl ?_
  refine xcallC 14 (o := 52) [.int _] [] hH6 ⟨u44, _, rfl⟩ rfl rfl (by decide) rfl (by decide) rfl ⟨rfl, rfl, rfl, rfl⟩ rfl (k_lngC hH6 hwq (by omega) (by omega) (by omega) (by omega) (fun z11 h11 => ⟨_, rfl, ?_⟩))
  refine xist 15 ⟨u44, _, rfl⟩ rfl rfl ?_
  refine xcst 16 (0) ⟨u44, _, rfl⟩ rfl (by decide) (fun z15 h15 => ?_)
  refine xist2 18 ⟨u44, _, rfl⟩ rfl rfl ?_
  refine xpad 4 ?_
  exact l44 (B := B) hT aV bV b2 ⟨o1, o2, o3⟩ hp0 (by omega) hwq (by omega) (by omega) ((bFx_n F6 (by simp)).trans p2) ((bFx_n F6 (by simp)).trans p3) (m1.trans f0) (by omega) (fun k hk => (bFx_n F6 (by simp)).trans (f5 k hk).1) (fun hp1 k1 k2 k3 k4 => hR hp1 X k1 ((F6.mono (by simp)).trans k2) k3 (by rw [k4, J6]; exact h3) (fun u => by
    rw [t3 u]
    unfold cyT
    rw [List.mem_map]
    exact ⟨fun ⟨k, g1, g2⟩ => ⟨k, List.mem_range.mpr g1, g2⟩, fun ⟨k, g1, g2⟩ => ⟨k, List.mem_range.mp g1, g2⟩⟩)) (cyL T a b x) 0 _ _ _ _ _ hp6 h15 (by omega) hH6 bFx.refl E6 rfl
/-- the class's cycle by its number -/
theorem k_rqC {d V n : Nat} {h : Nat → sR} {sv : Option sR} {T : sT} {ty : Nat → Int} {hp : amH} {R : xQ} {a b q : Int32} (hH : bHk 84 bTT hp) (hS : clS hp (V, T, ty) n h sv)
    (h1 : ∀ E, ¬ gTwo V a.toInt b.toInt = 0 → exE (gTwo V a.toInt b.toInt) E → R (.inr E) hp)
    (h3 : ∀ hp1, bHk 84 bTT hp1 → bFx [52, 53, 54, 55] hp hp1 → gTwo V a.toInt b.toInt = 0 → ¬ (0 ≤ q.toInt ∧ q.toInt < (((cyS T a.toInt.toNat b.toInt.toNat V).length : Nat) : Int)) → R (.inr 3) hp1)
    (hR : ∀ hp1, bHk 84 bTT hp1 → bFx [52, 53, 54, 55] hp hp1 → gTwo V a.toInt b.toInt = 0 → 0 ≤ q.toInt → q.toInt < (((cyS T a.toInt.toNat b.toInt.toNat V).length : Nat) : Int) → cyP hp1 T a.toInt.toNat b.toInt.toNat V → R (.inl none) hp1) : xK (d + 4) 181 [.ref 0, .int a, .int b, .int q] hp R := by
  have hB : bdOk hp 3 V T := hS.1
  refine xin (M := am_m181) rfl rfl rfl ?_
  refine xald 1 ⟨u181, _, rfl⟩ rfl rfl ?_
  refine xild 2 ⟨u181, _, rfl⟩ rfl rfl ?_
  refine xild 3 ⟨u181, _, rfl⟩ rfl rfl ?_
  refine xcallT 6 (o := 0) [.int _, .int _] [] hH ⟨u181, _, rfl⟩ rfl rfl (by decide) rfl (by decide) rfl ⟨rfl, rfl, rfl, rfl⟩ rfl (k_rq2 hH (V := V) hB.1 (fun g2 => Or.inl ⟨_, rfl, ?_⟩) (fun g2 => Or.inr ⟨_, rfl, rfl, h1 1 (by omega) (Or.inl ⟨g2, rfl⟩)⟩) (fun g2 => Or.inr ⟨_, rfl, rfl, h1 0 (by omega) (Or.inr (Or.inl ⟨g2, rfl⟩))⟩))
  have k2 := gTwo_0.mp g2
  refine xald 7 ⟨u181, _, rfl⟩ rfl rfl ?_
  refine xgetD 10 (52) hH ⟨u181, _, rfl⟩ rfl (by decide) (by decide) rfl rfl (by decide) ?_
  refine xald 11 ⟨u181, _, rfl⟩ rfl rfl ?_
  refine xgetD 14 (3) hH ⟨u181, _, rfl⟩ rfl (by decide) (by decide) rfl rfl (by decide) ?_
  refine xild 15 ⟨u181, _, rfl⟩ rfl rfl ?_
  refine xild 16 ⟨u181, _, rfl⟩ rfl rfl ?_
  refine xcallC 19 (o := 52) [.ref 3, .int _, .int _] [] hH ⟨u181, _, rfl⟩ rfl rfl (by decide) rfl (by decide) rfl ⟨rfl, rfl, rfl, rfl⟩ rfl (k_gaC (a := a.toInt.toNat) (b := b.toInt.toNat) hH hB hS.2.1 (by omega) (by omega) (by omega) (by omega) (by omega) (fun hp16 hH16 F16 P16 => ⟨_, rfl, ?_⟩))
  have p16 := P16.1
  refine xild 20 ⟨u181, _, rfl⟩ rfl rfl ?_
  refine xif_lt 23 ⟨u181, _, rfl⟩ rfl (fun c20 => ?_) (fun c20 => ?_)
  · exact xthr ⟨u181, _, rfl⟩ (by decide) rfl (by decide) (h3 _ hH16 F16 g2 (by omega))
  · refine xild 24 ⟨u181, _, rfl⟩ rfl rfl ?_
    refine xald 25 ⟨u181, _, rfl⟩ rfl rfl ?_
    refine xgetD 28 (52) hH16 ⟨u181, _, rfl⟩ rfl (by decide) (by decide) rfl rfl (by decide) ?_
    refine xgetC 31 hH16 ⟨u181, _, rfl⟩ rfl (by decide) (by decide) rfl rfl (by decide) (fun z28 h28 => ?_)
    refine xcmp_lt 34 ⟨u181, _, rfl⟩ rfl (fun c31 => ?_) (fun c31 => ?_)
    · exact xretV ⟨u181, _, rfl⟩ rfl (hR _ hH16 F16 g2 (by omega) (by omega) P16)
    · exact xthr ⟨u181, _, rfl⟩ (by decide) rfl (by decide) (h3 _ hH16 F16 g2 (by omega))
/-- what a switch along a cycle tells the tally -/
noncomputable def tyC (ty : Nat → Int) (c : Nat) : Nat → Int := fun i => if i = 1 then wr (ty 1 + 1) else if i = 2 then wr (ty 2 + c) else ty i
noncomputable abbrev cyX (V : Nat) (T : sT) (a b q : Int) : Nat := (cyS T a.toNat b.toNat V).getD q.toNat 0
theorem k_143E {d V n : Nat} {h : Nat → sR} {sv : Option sR} {T : sT} {ty : Nat → Int} {hp : amH} {R : xQ} {a b q : Int32} (hH : bHk 84 bTT hp) (hS : clS hp (V, T, ty) n h sv)
    (h1 : ∀ E, ¬ gTwo V a.toInt b.toInt = 0 → exE (gTwo V a.toInt b.toInt) E → R (.inr E) hp)
    (h3 : ∀ hp1, bHk 84 bTT hp1 → cF hp hp1 → clS hp1 (V, T, ty) n h sv → gTwo V a.toInt b.toInt = 0 → ¬ (0 ≤ q.toInt ∧ q.toInt < (((cyS T a.toInt.toNat b.toInt.toNat V).length : Nat) : Int)) → R (.inr 3) hp1)
    (hR : ∀ (z : Int32) hp1, bHk 84 bTT hp1 → cF hp hp1 → gTwo V a.toInt b.toInt = 0 → 0 ≤ q.toInt → q.toInt < (((cyS T a.toInt.toNat b.toInt.toNat V).length : Nat) : Int) → clS hp1 (V, swC T a.toInt.toNat b.toInt.toNat (cyX V T a.toInt b.toInt q.toInt), tyC ty (cyL T a.toInt.toNat b.toInt.toNat (cyX V T a.toInt b.toInt q.toInt))) (pM n + 1) (pH n h (V, T, ty)) sv → z.toInt = ((cyL T a.toInt.toNat b.toInt.toNat (cyX V T a.toInt b.toInt q.toInt) : Nat) : Int) → R (.inl (some (.int z))) hp1) : xK (d + 6) 143 [.ref 0, .int a, .int b, .int q] hp R := by
  have hB : bdOk hp 3 V T := hS.1
  have hT : sOk V T := hB.2.1
  refine xin (M := am_m143) rfl rfl rfl ?_
  refine xald 1 ⟨u143, _, rfl⟩ rfl rfl ?_
  refine xild 2 ⟨u143, _, rfl⟩ rfl rfl ?_
  refine xild 3 ⟨u143, _, rfl⟩ rfl rfl ?_
  refine xild 4 ⟨u143, _, rfl⟩ rfl rfl ?_
  refine xcallT 7 (o := 0) [.int _, .int _, .int _] [] hH ⟨u143, _, rfl⟩ rfl rfl (by decide) rfl (by decide) rfl ⟨rfl, rfl, rfl, rfl⟩ rfl (k_rqC hH hS (fun E g2 e => Or.inr ⟨_, rfl, rfl, h1 E g2 e⟩) (fun hp4 hH4 F4 g2 g3 => Or.inr ⟨_, rfl, rfl, h3 hp4 hH4 (cF_x F4 (by simp)) (clS_8 hS (fun c k hc => F4 c k (by simp; omega))) g2 g3⟩) (fun hp4 hH4 F4 g2 g3 g4 P4 => Or.inl ⟨_, rfl, ?_⟩))
  have k2 := gTwo_0.mp g2
  have S4 : clS hp4 (V, T, ty) n h sv := clS_8 hS (fun c k hc => F4 c k (by simp; omega))
  have hq : q.toInt.toNat < (cyS T a.toInt.toNat b.toInt.toNat V).length := by omega
  obtain ⟨b1, b2⟩ := cyS_get hq
  obtain ⟨x, ex⟩ : ∃ x, (cyS T a.toInt.toNat b.toInt.toNat V).getD q.toInt.toNat 0 = x := ⟨_, rfl⟩
  rw [ex] at b1 b2
  obtain ⟨o1, o2, o3, hp0, -⟩ := (cyB_s hT).mp b1
  obtain ⟨w1, w2, w3, w4⟩ := cy_ok hT (a := a.toInt.toNat) (b := b.toInt.toNat) (by omega) (by omega) (by omega) b2 ⟨o1, o2, o3⟩ hp0
  have cm := cyA_m hT b2 ⟨o1, o2, o3⟩ hp0 (cyL T a.toInt.toNat b.toInt.toNat x)
  have cl := cyL_s hT hp0
  refine xald 8 ⟨u143, _, rfl⟩ rfl rfl ?_
  refine xcallC 11 (o := 0) [] [] hH4 ⟨u143, _, rfl⟩ rfl rfl (by decide) rfl (by decide) rfl ⟨rfl, rfl, rfl, rfl⟩ rfl (k_cmS hH4 S4 (fun hp8 hH8 F8 S8 => ⟨_, rfl, ?_⟩))
  have P8 : cyP hp8 T a.toInt.toNat b.toInt.toNat V := cyP_hy F8 P4
  refine xald 12 ⟨u143, _, rfl⟩ rfl rfl ?_
  refine xgetD 15 (52) hH8 ⟨u143, _, rfl⟩ rfl (by decide) (by decide) rfl rfl (by decide) ?_
  refine xild 16 ⟨u143, _, rfl⟩ rfl rfl ?_
  refine xald 17 ⟨u143, _, rfl⟩ rfl rfl ?_
  refine xgetD 20 (62) hH8 ⟨u143, _, rfl⟩ rfl (by decide) (by decide) rfl rfl (by decide) ?_
  refine xcallC 23 (o := 52) [.int _, .ref 62] [] hH8 ⟨u143, _, rfl⟩ rfl rfl (by decide) rfl (by decide) rfl ⟨rfl, rfl, rfl, rfl⟩ rfl (k_plC (x := x) hH8 hT (a := a.toInt.toNat) (b := b.toInt.toNat) (by omega) (by omega) P8 (by omega) (q := q.toInt.toNat) (by omega) hq ex (fun hp20 X hH20 F20 E20 J20 t20 => ⟨_, rfl, ?_⟩))
  have S20 : clS hp20 (V, T, ty) (pM n + 1) (pH n h (V, T, ty)) sv := clS_8 S8 (fun c k hc => F20 c k (by simp; omega))
  refine xald 24 ⟨u143, _, rfl⟩ rfl rfl ?_
  refine xgetD 27 (62) hH20 ⟨u143, _, rfl⟩ rfl (by decide) (by decide) rfl rfl (by decide) ?_
  refine xald 28 ⟨u143, _, rfl⟩ rfl rfl ?_
  refine xgetD 31 (3) hH20 ⟨u143, _, rfl⟩ rfl (by decide) (by decide) rfl rfl (by decide) ?_
  refine xcallC 34 (o := 62) [.ref 3] [] hH20 ⟨u143, _, rfl⟩ rfl rfl (by decide) rfl (by decide) rfl ⟨rfl, rfl, rfl, rfl⟩ rfl (k_exA (o := 3) (Or.inl rfl) hH20 E20 S20.1 w1 w3 (fun z31 hp31 hH31 F31 B31 h31 => ⟨_, rfl, ?_⟩))
  have B31 : bdOk hp31 3 V (swC T a.toInt.toNat b.toInt.toNat x) := B31
  have t31 : ∀ i, i < 3 → rN hp31 13 i = ty i := fun i hi => (bFx_n F31 (by simp)).trans (S20.2.2.2.1 i hi)
  refine xpop 35 ⟨u143, _, rfl⟩ rfl rfl ?_
  refine xald 36 ⟨u143, _, rfl⟩ rfl rfl ?_
  refine xgetD 39 (13) hH31 ⟨u143, _, rfl⟩ rfl (by decide) (by decide) rfl rfl (by decide) ?_
  refine xdup 40 ⟨u143, _, rfl⟩ rfl rfl ?_
  refine xgetC 43 hH31 ⟨u143, _, rfl⟩ rfl (by decide) (by decide) rfl rfl (by decide) (fun z40 h40 => ?_)
  refine xcst 44 (1) ⟨u143, _, rfl⟩ rfl (by decide) (fun z43 h43 => ?_)
  refine xaddB 45 ⟨u143, _, rfl⟩ rfl (fun z44 h44 => ?_)
  have em45 := aMin z44
  have ex45 := aMax z44
  refine xputC 48 hH31 ⟨u143, _, rfl⟩ rfl (by decide) (by decide) rfl rfl (by decide) ⟨rfl, rfl⟩ (by omega) (by omega) (fun hp45 hH45 U45 => ?_)
  have s45 := U45.1
  refine xald 49 ⟨u143, _, rfl⟩ rfl rfl ?_
  refine xgetD 52 (13) hH45 ⟨u143, _, rfl⟩ rfl (by decide) (by decide) rfl rfl (by decide) ?_
  refine xdup 53 ⟨u143, _, rfl⟩ rfl rfl ?_
  refine xgetC 56 hH45 ⟨u143, _, rfl⟩ rfl (by decide) (by decide) rfl rfl (by decide) (fun z53 h53 => ?_)
  refine xald 57 ⟨u143, _, rfl⟩ rfl rfl ?_
  refine xgetD 60 (62) hH45 ⟨u143, _, rfl⟩ rfl (by decide) (by decide) rfl rfl (by decide) ?_
  refine xgetC 63 hH45 ⟨u143, _, rfl⟩ rfl (by decide) (by decide) rfl rfl (by decide) (fun z60 h60 => ?_)
  refine xaddB 64 ⟨u143, _, rfl⟩ rfl (fun z63 h63 => ?_)
  have em64 := aMin z63
  have ex64 := aMax z63
  refine xputC 67 hH45 ⟨u143, _, rfl⟩ rfl (by decide) (by decide) rfl rfl (by decide) ⟨rfl, rfl⟩ (by omega) (by omega) (fun hp64 hH64 U64 => ?_)
  have s64 := U64.1
  have s45' := U45.1
  have s64' := U64.1
  have E0 : rN hp45 62 0 = ((cyL T a.toInt.toNat b.toInt.toNat x : Nat) : Int) := by
    rw [rU_ne U45 (by first | decide | exact (fun z => absurd z.1 (by decide)) | omega), bFx_n F31 (by simp)]
    have := E20.1
    rw [cyA_l] at this
    exact this
  have TY : ∀ i, i < 3 → rN hp64 13 i = tyC ty (cyL T a.toInt.toNat b.toInt.toNat x) i := fun i hi => by
    have : i = 0 ∨ i = 1 ∨ i = 2 := by omega
    rcases this with rfl | rfl | rfl
    · rw [rU_ne U64 (by first | decide | exact (fun z => absurd z.1 (by decide)) | omega), rU_ne U45 (by first | decide | exact (fun z => absurd z.1 (by decide)) | omega), t31 0 (by omega)]
      rfl
    · rw [rU_ne U64 (by first | decide | exact (fun z => absurd z.1 (by decide)) | omega), U45.1, h44, h40, h43, t31 1 (by omega)]
      rfl
    · rw [U64.1, h63, h53, rU_ne U45 (by first | decide | exact (fun z => absurd z.1 (by decide)) | omega), t31 2 (by omega), h60, E0]
      rfl
  refine xald 68 ⟨u143, _, rfl⟩ rfl rfl ?_
  refine xcallC 71 (o := 0) [] [] hH64 ⟨u143, _, rfl⟩ rfl rfl (by decide) rfl (by decide) rfl ⟨rfl, rfl, rfl, rfl⟩ rfl (k_stS hH64 (V := V) (T := swC T a.toInt.toNat b.toInt.toNat x) (ty := tyC ty (cyL T a.toInt.toNat b.toInt.toNat x)) (bdOk_fr B31 ((rU_ne U64 (by first | decide | exact (fun z => absurd z.1 (by decide)) | omega)).trans (rU_ne U45 (by first | decide | exact (fun z => absurd z.1 (by decide)) | omega))) (fun _ => (rU_ne U64 (by first | decide | exact (fun z => absurd z.1 (by decide)) | omega)).trans (rU_ne U45 (by first | decide | exact (fun z => absurd z.1 (by decide)) | omega))) (fun _ => (rU_ne U64 (by first | decide | exact (fun z => absurd z.1 (by decide)) | omega)).trans (rU_ne U45 (by first | decide | exact (fun z => absurd z.1 (by decide)) | omega)))) TY (hyC_fr S20.2.2.2.2 (fun c k c1 c2 => (U64.2 c k (by omega)).trans ((U45.2 c k (by omega)).trans (F31 c k (by simp; omega))))) (fun hp68 hH68 F68 S68 => ⟨_, rfl, ?_⟩))
  have F68c : cF hp hp68 := (cF_x F4 (by simp)).trans ((cF_hy F8).trans ((cF_x F20 (by simp)).trans ((cF_x F31 (by simp)).trans ((cF_U U45 (by omega)).trans ((cF_U U64 (by omega)).trans (cF_x F68 (by simp)))))))
  have E68 : rN hp68 62 0 = ((cyL T a.toInt.toNat b.toInt.toNat x : Nat) : Int) := (bFx_n F68 (by simp)).trans ((rU_ne U64 (by first | decide | exact (fun z => absurd z.1 (by decide)) | omega)).trans E0)
  refine xald 72 ⟨u143, _, rfl⟩ rfl rfl ?_
  refine xgetD 75 (62) hH68 ⟨u143, _, rfl⟩ rfl (by decide) (by decide) rfl rfl (by decide) ?_
  refine xgetC 78 hH68 ⟨u143, _, rfl⟩ rfl (by decide) (by decide) rfl rfl (by decide) (fun z75 h75 => ?_)
  exact xret ⟨u143, _, rfl⟩ rfl (hR _ hp68 hH68 F68c g2 g3 g4 (by rw [show cyX V T a.toInt b.toInt q.toInt = x from ex]; exact S68) (by rw [show cyX V T a.toInt b.toInt q.toInt = x from ex]; exact h75.trans E68))
end
/-! ##### 19.m.096.40g ##### -/
section
/-! ===== the reference walks along cycles ===== -/
theorem sy_T {V : Nat} {T : sT} (hT : sOk V T) (u v : Nat) : T u v = T v u := by
  by_cases h : T u v = -1
  · rw [h, sy_free hT h]
  · obtain ⟨k, ek, -, -, -, -, -, -, t1, -⟩ := sOk_at hT (rfl : T u v = _) h
    rw [ek, t1]
noncomputable def wWkE : List (Nat × Nat) := [(66, 17), (78, 999)]
theorem l225E {d V x a b : Nat} {T : sT} {hp0 : amH} {R : xQ} {wa wb wx : Int32} (hB0 : rdOk hp0 V T) (ha : wa.toInt = (a : Int)) (hb : wb.toInt = (b : Int)) (aV : a < V) (bV : b < V) (hx : wx.toInt = (x : Int)) (xV' : x < V)
    (hR : ∀ (z : Int32) hp1, bHk 84 bTT hp1 → bFr wWkE hp0 hp1 → z.toInt = (if 0 < cyL T a b x then 1 else 0) → (0 < cyL T a b x → rN hp1 66 17 = ((cyL T a b x : Nat) : Int) ∧ ∀ k, k < cyL T a b x → rN hp1 78 k = ((rk T a b x k : Nat) : Int)) → R (.inl (some (.int z))) hp1) :
    ∀ (jj k at_ : Nat) (wat : Int32) (v5 : Option Value) (hp : amH), wat.toInt = (at_ : Int) → rN hp 66 17 = (k : Int) → k + jj = 15 → wl T a b false k x = some at_ → clF T a b x jj k = cyL T a b x → bHk 84 bTT hp → bFr wWkE hp0 hp → (∀ j, j < k → rN hp 78 j = ((rk T a b x j : Nat) : Int)) → xV (d + 1) am_m225 8 [some (.ref 66), some (.int wa), some (.int wb), some (.int wx), some (.int wat), v5] [] hp R := by
  have hT : sOk V T := hB0.2.1
  have hV := hT.2.1
  intro jj
  induction jj with
  | zero =>
    intro k at_ wat v5 hp hat hk hj hwl hcl hH hF hro
    have h0 : cyL T a b x = 0 := hcl.symm
    refine xald 9 ⟨u225, _, rfl⟩ rfl rfl ?_
    refine xgetI 12 hH ⟨u225, _, rfl⟩ rfl rfl (fun z9 h9 => ?_)
    refine xbip 14 (15) ⟨u225, _, rfl⟩ rfl (by decide) (fun z12 h12 => ?_)
    refine xcmp_ge 17 ⟨u225, _, rfl⟩ rfl (fun c14 => ?_) (fun c14 => ?_)
    · refine xcst 85 (0) ⟨u225, _, rfl⟩ rfl (by decide) (fun z84 h84 => ?_)
      exact xretB ⟨u225, _, rfl⟩ rfl (by omega) (hR _ hp hH hF (by rw [h0, if_neg (by omega)]; exact h84) (fun z => by omega))
    · omega
  | succ jj ih =>
    intro k at_ wat v5 hp hat hk hj hwl hcl hH hF hro
    have hB : rdOk hp V T := rdOk_fr hB0 (fun i => r_fr hF rfl)
    have atV := wl_lt hT xV' hwl
    have nxt := wl_next hwl
    have par := pr2_mod k
    have hs : ∃ s : Nat, abS a b (pr2 false k) = s ∧ s < V ∧ ((k % 2 = 0 ∧ s = a) ∨ (k % 2 = 1 ∧ s = b)) := by
      rcases Nat.mod_two_eq_zero_or_one k with g | g
      · exact ⟨a, by rw [par, decide_eq_false (by omega)]; rfl, aV, Or.inl ⟨g, rfl⟩⟩
      · exact ⟨b, by rw [par, decide_eq_true g]; rfl, bV, Or.inr ⟨g, rfl⟩⟩
    obtain ⟨s, es, sV, hs⟩ := hs
    rw [es] at nxt
    have hrk : rk T a b x k = at_ := rk_some hwl
    have cle : clF T a b x (jj + 1) k = if wl T a b false (k + 1) x = some x then k + 1 else if wl T a b false (k + 1) x = none then 0 else clF T a b x jj (k + 1) := rfl
    refine xald 9 ⟨u225, _, rfl⟩ rfl rfl ?_
    refine xgetI 12 hH ⟨u225, _, rfl⟩ rfl rfl (fun z9 h9 => ?_)
    refine xbip 14 (15) ⟨u225, _, rfl⟩ rfl (by decide) (fun z12 h12 => ?_)
    refine xcmp_ge 17 ⟨u225, _, rfl⟩ rfl (fun c14 => ?_) (fun c14 => ?_)
    · omega
    · refine xald 18 ⟨u225, _, rfl⟩ rfl rfl ?_
      refine xgetR 21 78 hH ⟨u225, _, rfl⟩ rfl rfl ?_
      refine xald 22 ⟨u225, _, rfl⟩ rfl rfl ?_
      refine xgetI 25 hH ⟨u225, _, rfl⟩ rfl rfl (fun z22 h22 => ?_)
      refine xild2 27 ⟨u225, _, rfl⟩ rfl rfl ?_
      refine xiast 28 (z22).toInt.toNat hH ⟨u225, _, rfl⟩ rfl (by decide) rfl (by omega) (by omega) (by omega) (by omega) (fun hp27 hH27 U27 => ?_)
      have s27 := U27.1
      have i21 : z22.toInt.toNat = k := by omega
      have k27 : rN hp27 66 17 = (k : Int) := (rU_ne U27 (by first | decide | exact (fun z => absurd z.1 (by decide)) | omega)).trans hk
      refine xald 29 ⟨u225, _, rfl⟩ rfl rfl ?_
      refine xdup 30 ⟨u225, _, rfl⟩ rfl rfl ?_
      refine xgetI 33 hH27 ⟨u225, _, rfl⟩ rfl rfl (fun z30 h30 => ?_)
      refine xcst 34 (1) ⟨u225, _, rfl⟩ rfl (by decide) (fun z33 h33 => ?_)
      refine xadd 35 _ ⟨u225, _, rfl⟩ rfl rfl (by omega) (by omega) (fun z34 h34 => ?_)
      refine xputI 38 hH27 ⟨u225, _, rfl⟩ rfl rfl ⟨rfl, rfl⟩ (by omega) (by omega) (fun hp35 hH35 U35 => ?_)
      have s35 := U35.1
      have s27 := U27.1
      have s35 := U35.1
      have F35 : bFr wWkE hp hp35 := (rU_fr U27 (bIn_all (by decide) _)).trans (rU_fr U35 (by decide))
      have B35 : rdOk hp35 V T := rdOk_fr hB (fun i => r_fr F35 rfl)
      have tt35 : ∀ u v, u < 15 → v < 15 → tT hp35 u v = T u v := B35.2.2.1
      have m35 : rN hp35 66 17 = ((k + 1 : Nat) : Int) := by omega
      have ro35 : ∀ j, j < k + 1 → rN hp35 78 j = ((rk T a b x j : Nat) : Int) := fun j hj2 => by
        rw [rU_ne U35 (by first | decide | exact (fun z => absurd z.1 (by decide)) | omega)]
        by_cases g : j = k
        · rw [g, show k = z22.toInt.toNat by omega, s27, show z22.toInt.toNat = k by omega, hrk]
          exact hat
        · rw [rU_ne U27 (by first | decide | exact (fun z => absurd z.1 (by decide)) | omega)]
          exact hro j (by omega)
      refine xald 39 ⟨u225, _, rfl⟩ rfl rfl ?_
      refine xild2 41 ⟨u225, _, rfl⟩ rfl rfl ?_
      refine xald 42 ⟨u225, _, rfl⟩ rfl rfl ?_
      refine xgetI 45 hH35 ⟨u225, _, rfl⟩ rfl rfl (fun z42 h42 => ?_)
      refine xcst 46 (2) ⟨u225, _, rfl⟩ rfl (by decide) (fun z45 h45 => ?_)
      refine xrem 47 (Int32.toInt z42 % 2) ⟨u225, _, rfl⟩ rfl (by omega) (by omega) (by rw [h45]) (fun z46 h46 => ?_)
      refine xcst 48 (1) ⟨u225, _, rfl⟩ rfl (by decide) (fun z47 h47 => ?_)
      refine xcmp_ne 51 ⟨u225, _, rfl⟩ rfl (fun c48 => ?_) (fun c48 => ?_)
      · refine xild 56 ⟨u225, _, rfl⟩ rfl rfl ?_
        refine xcall 59 [.ref 66, .int _, .int _] [] hH35 ⟨u225, _, rfl⟩ rfl rfl rfl rfl rfl (k_third hH35 (by omega) (by omega) (by omega) (by omega) (fun z56 h56 => ⟨_, rfl, ?_⟩))
        rw [show wb.toInt.toNat = s by omega, show wat.toInt.toNat = at_ by omega, tt35 at_ s (by omega) (by omega), sy_T hT at_ s] at h56
        refine xist2 61 ⟨u225, _, rfl⟩ rfl rfl ?_
        refine xild2 63 ⟨u225, _, rfl⟩ rfl rfl ?_
        refine xcst 64 (-1) ⟨u225, _, rfl⟩ rfl (by decide) (fun z63 h63 => ?_)
        refine xcmp_ne 67 ⟨u225, _, rfl⟩ rfl (fun c64 => ?_) (fun c64 => ?_)
        · obtain ⟨w, ew, -, lw, -⟩ := sOk_at hT (a := s) (b := at_) rfl (by omega)
          rw [if_neg (by omega), ew, Int.toNat_natCast] at nxt
          refine xild2 71 ⟨u225, _, rfl⟩ rfl rfl ?_
          refine xist2 73 ⟨u225, _, rfl⟩ rfl rfl ?_
          refine xild2 75 ⟨u225, _, rfl⟩ rfl rfl ?_
          refine xild 76 ⟨u225, _, rfl⟩ rfl rfl ?_
          refine xcmp_ne 79 ⟨u225, _, rfl⟩ rfl (fun c76 => ?_) (fun c76 => ?_)
          · have nx : ¬ wl T a b false (k + 1) x = some x := fun z => by rw [nxt] at z; have := Option.some.inj z; omega
            rw [cle, if_neg nx, if_neg (by rw [nxt]; simp)] at hcl
            refine xgoto ⟨u225, _, rfl⟩ ?_
            exact ih (k + 1) w z56 _ hp35 (by omega) m35 (by omega) nxt hcl hH35 (hF.trans F35) ro35
          · have wx1 : w = x := by omega
            rw [wx1] at nxt
            rw [cle, if_pos nxt] at hcl
            refine xcst 80 (1) ⟨u225, _, rfl⟩ rfl (by decide) (fun z79 h79 => ?_)
            exact xretB ⟨u225, _, rfl⟩ rfl (by omega) (hR _ hp35 hH35 (hF.trans F35) (by rw [← hcl, if_pos (by omega)]; exact h79) (fun _ => by rw [← hcl]; exact ⟨m35, ro35⟩))
        · rw [if_pos (by omega)] at nxt
          rw [cle, nxt, if_neg (by simp), if_pos rfl] at hcl
          refine xcst 68 (0) ⟨u225, _, rfl⟩ rfl (by decide) (fun z67 h67 => ?_)
          exact xretB ⟨u225, _, rfl⟩ rfl (by omega) (hR _ hp35 hH35 (hF.trans F35) (by rw [← hcl, if_neg (by omega)]; exact h67) (fun z => by omega))
      · refine xild 52 ⟨u225, _, rfl⟩ rfl rfl ?_
        refine xgoto ⟨u225, _, rfl⟩ ?_
        refine xcall 59 [.ref 66, .int _, .int _] [] hH35 ⟨u225, _, rfl⟩ rfl rfl rfl rfl rfl (k_third hH35 (by omega) (by omega) (by omega) (by omega) (fun z56 h56 => ⟨_, rfl, ?_⟩))
        rw [show wa.toInt.toNat = s by omega, show wat.toInt.toNat = at_ by omega, tt35 at_ s (by omega) (by omega), sy_T hT at_ s] at h56
        refine xist2 61 ⟨u225, _, rfl⟩ rfl rfl ?_
        refine xild2 63 ⟨u225, _, rfl⟩ rfl rfl ?_
        refine xcst 64 (-1) ⟨u225, _, rfl⟩ rfl (by decide) (fun z63 h63 => ?_)
        refine xcmp_ne 67 ⟨u225, _, rfl⟩ rfl (fun c64 => ?_) (fun c64 => ?_)
        · obtain ⟨w, ew, -, lw, -⟩ := sOk_at hT (a := s) (b := at_) rfl (by omega)
          rw [if_neg (by omega), ew, Int.toNat_natCast] at nxt
          refine xild2 71 ⟨u225, _, rfl⟩ rfl rfl ?_
          refine xist2 73 ⟨u225, _, rfl⟩ rfl rfl ?_
          refine xild2 75 ⟨u225, _, rfl⟩ rfl rfl ?_
          refine xild 76 ⟨u225, _, rfl⟩ rfl rfl ?_
          refine xcmp_ne 79 ⟨u225, _, rfl⟩ rfl (fun c76 => ?_) (fun c76 => ?_)
          · have nx : ¬ wl T a b false (k + 1) x = some x := fun z => by rw [nxt] at z; have := Option.some.inj z; omega
            rw [cle, if_neg nx, if_neg (by rw [nxt]; simp)] at hcl
            refine xgoto ⟨u225, _, rfl⟩ ?_
            exact ih (k + 1) w z56 _ hp35 (by omega) m35 (by omega) nxt hcl hH35 (hF.trans F35) ro35
          · have wx1 : w = x := by omega
            rw [wx1] at nxt
            rw [cle, if_pos nxt] at hcl
            refine xcst 80 (1) ⟨u225, _, rfl⟩ rfl (by decide) (fun z79 h79 => ?_)
            exact xretB ⟨u225, _, rfl⟩ rfl (by omega) (hR _ hp35 hH35 (hF.trans F35) (by rw [← hcl, if_pos (by omega)]; exact h79) (fun _ => by rw [← hcl]; exact ⟨m35, ro35⟩))
        · rw [if_pos (by omega)] at nxt
          rw [cle, nxt, if_neg (by simp), if_pos rfl] at hcl
          refine xcst 68 (0) ⟨u225, _, rfl⟩ rfl (by decide) (fun z67 h67 => ?_)
          exact xretB ⟨u225, _, rfl⟩ rfl (by omega) (hR _ hp35 hH35 (hF.trans F35) (by rw [← hcl, if_neg (by omega)]; exact h67) (fun z => by omega))
theorem k_225E {d V x a b : Nat} {T : sT} {hp : amH} {R : xQ} {wa wb wx : Int32} (hH : bHk 84 bTT hp) (hB : rdOk hp V T) (ha : wa.toInt = (a : Int)) (hb : wb.toInt = (b : Int)) (aV : a < V) (bV : b < V) (hx : wx.toInt = (x : Int)) (xV' : x < V)
    (hR : ∀ (z : Int32) hp1, bHk 84 bTT hp1 → bFr wWkE hp hp1 → z.toInt = (if 0 < cyL T a b x then 1 else 0) → (0 < cyL T a b x → rN hp1 66 17 = ((cyL T a b x : Nat) : Int) ∧ ∀ k, k < cyL T a b x → rN hp1 78 k = ((rk T a b x k : Nat) : Int)) → R (.inl (some (.int z))) hp1) : xK (d + 1) 225 [.ref 66, .int wa, .int wb, .int wx] hp R := by
  refine xin (M := am_m225) rfl rfl rfl ?_
  refine xald 1 ⟨u225, _, rfl⟩ rfl rfl ?_
  refine xcst 2 (0) ⟨u225, _, rfl⟩ rfl (by decide) (fun z1 h1 => ?_)
  refine xputI 5 hH ⟨u225, _, rfl⟩ rfl rfl ⟨rfl, rfl⟩ (by omega) (by omega) (fun hp2 hH2 U2 => ?_)
  have s2 := U2.1
  refine xild 6 ⟨u225, _, rfl⟩ rfl rfl ?_
  refine xist2 8 ⟨u225, _, rfl⟩ rfl rfl ?_
  have F2 : bFr wWkE hp hp2 := rU_fr U2 (by decide)
  refine xpad 1 ?_
  exact l225E (rdOk_fr hB (fun i => r_fr F2 rfl)) ha hb aV bV hx xV' (fun z hp1 k1 k2 k3 k4 => hR z hp1 k1 (F2.trans k2) k3 k4) 15 0 x _ _ hp2 hx (by rw [U2.1]; exact h1) (by omega) rfl rfl hH2 (bFr.refl _ _) (fun j hj => absurd hj (Nat.not_lt_zero j))
theorem l226E {d x a b : Nat} {T : sT} {hp : amH} {R : xQ} {wa wb wx : Int32} (hH : bHk 84 bTT hp) (hx : wx.toInt = (x : Int)) (h15 : cyL T a b x ≤ 15) (hm : rN hp 66 17 = ((cyL T a b x : Nat) : Int)) (hr : ∀ k, k < cyL T a b x → rN hp 78 k = ((rk T a b x k : Nat) : Int))
    (hR : ∀ z : Int32, z.toInt = (if ∀ k, k < cyL T a b x → x ≤ rk T a b x k then 1 else 0) → R (.inl (some (.int z))) hp) :
    ∀ (jj k : Nat) (wk : Int32), wk.toInt = (k : Int) → k + jj = cyL T a b x → (∀ j, j < k → x ≤ rk T a b x j) → xV d am_m226 35 [some (.ref 66), some (.int wa), some (.int wb), some (.int wx), some (.int wk)] [] hp R := by
  intro jj
  induction jj with
  | zero =>
    intro k wk hwk hj hlo
    have ek : k = cyL T a b x := by omega
    rw [ek] at hlo
    refine xild2 37 ⟨u226, _, rfl⟩ rfl rfl ?_
    refine xald 38 ⟨u226, _, rfl⟩ rfl rfl ?_
    refine xgetI 41 hH ⟨u226, _, rfl⟩ rfl rfl (fun z38 h38 => ?_)
    refine xcmp_ge 44 ⟨u226, _, rfl⟩ rfl (fun c41 => ?_) (fun c41 => ?_)
    · refine xcst 64 (1) ⟨u226, _, rfl⟩ rfl (by decide) (fun z63 h63 => ?_)
      exact xretB ⟨u226, _, rfl⟩ rfl (by omega) (hR _ (by rw [if_pos hlo]; exact h63))
    · omega
  | succ jj ih =>
    intro k wk hwk hj hlo
    have hk := hr k (by omega)
    refine xild2 37 ⟨u226, _, rfl⟩ rfl rfl ?_
    refine xald 38 ⟨u226, _, rfl⟩ rfl rfl ?_
    refine xgetI 41 hH ⟨u226, _, rfl⟩ rfl rfl (fun z38 h38 => ?_)
    refine xcmp_ge 44 ⟨u226, _, rfl⟩ rfl (fun c41 => ?_) (fun c41 => ?_)
    · omega
    · refine xald 45 ⟨u226, _, rfl⟩ rfl rfl ?_
      refine xgetR 48 78 hH ⟨u226, _, rfl⟩ rfl rfl ?_
      refine xild2 50 ⟨u226, _, rfl⟩ rfl rfl ?_
      refine xiald 51 (wk).toInt.toNat hH ⟨u226, _, rfl⟩ rfl (by decide) rfl (by omega) (by omega) (fun z50 h50 => ?_)
      rw [show wk.toInt.toNat = k by omega, hk] at h50
      refine xild 52 ⟨u226, _, rfl⟩ rfl rfl ?_
      refine xcmp_ge 55 ⟨u226, _, rfl⟩ rfl (fun c52 => ?_) (fun c52 => ?_)
      · refine xinc 60 (1) ⟨u226, _, rfl⟩ rfl rfl rfl (by decide) (by omega) (by omega) (fun z57 h57 => ?_)
        refine xgoto ⟨u226, _, rfl⟩ ?_
        exact ih (k + 1) z57 (by omega) (by omega) (fun j hj2 => by
          by_cases g : j = k
          · rw [g]; omega
          · exact hlo j (by omega))
      · refine xcst 56 (0) ⟨u226, _, rfl⟩ rfl (by decide) (fun z55 h55 => ?_)
        exact xretB ⟨u226, _, rfl⟩ rfl (by omega) (hR _ (by rw [if_neg (fun z => by have := z k (by omega); omega)]; exact h55))
theorem k_226E {d V x a b : Nat} {T : sT} {hp : amH} {R : xQ} {wa wb wx : Int32} (hH : bHk 84 bTT hp) (hB : rdOk hp V T) (ha : wa.toInt = (a : Int)) (hb : wb.toInt = (b : Int)) (aV : a < V) (bV : b < V) (hx : wx.toInt = (x : Int)) (xV' : x < V)
    (hR : ∀ (z : Int32) hp1, bHk 84 bTT hp1 → bFr wWkE hp hp1 → z.toInt = (if cyB T a b x = true then 1 else 0) → (cyB T a b x = true → rN hp1 66 17 = ((cyL T a b x : Nat) : Int) ∧ ∀ k, k < cyL T a b x → rN hp1 78 k = ((rk T a b x k : Nat) : Int)) → R (.inl (some (.int z))) hp1) : xK (d + 2) 226 [.ref 66, .int wa, .int wb, .int wx] hp R := by
  have hT : sOk V T := hB.2.1
  have hV := hT.2.1
  have tt := hB.2.2.1
  have cB : cyB T a b x = true ↔ (¬ x = a ∧ ¬ x = b ∧ ¬ T a b = (x : Int) ∧ 0 < cyL T a b x ∧ ∀ k, k < cyL T a b x → x ≤ rk T a b x k) := decide_eq_true_iff
  refine xin (M := am_m226) rfl rfl rfl ?_
  refine xild 1 ⟨u226, _, rfl⟩ rfl rfl ?_
  refine xild 2 ⟨u226, _, rfl⟩ rfl rfl ?_
  refine xcmp_eq 5 ⟨u226, _, rfl⟩ rfl (fun c2 => ?_) (fun c2 => ?_)
  · have nb : ¬ cyB T a b x = true := fun z => by
      obtain ⟨z1, z2, z3, z4, z5⟩ := cB.mp z
      omega
    refine xcst 31 (0) ⟨u226, _, rfl⟩ rfl (by decide) (fun z30 h30 => ?_)
    exact xretB ⟨u226, _, rfl⟩ rfl (by omega) (hR _ hp hH (bFr.refl _ _) (by rw [if_neg nb]; exact h30) (fun z => absurd z nb))
  · refine xild 6 ⟨u226, _, rfl⟩ rfl rfl ?_
    refine xild 7 ⟨u226, _, rfl⟩ rfl rfl ?_
    refine xcmp_eq 10 ⟨u226, _, rfl⟩ rfl (fun c7 => ?_) (fun c7 => ?_)
    · have nb : ¬ cyB T a b x = true := fun z => by
        obtain ⟨z1, z2, z3, z4, z5⟩ := cB.mp z
        omega
      refine xcst 31 (0) ⟨u226, _, rfl⟩ rfl (by decide) (fun z30 h30 => ?_)
      exact xretB ⟨u226, _, rfl⟩ rfl (by omega) (hR _ hp hH (bFr.refl _ _) (by rw [if_neg nb]; exact h30) (fun z => absurd z nb))
    · refine xald 11 ⟨u226, _, rfl⟩ rfl rfl ?_
      refine xild 12 ⟨u226, _, rfl⟩ rfl rfl ?_
      refine xild 13 ⟨u226, _, rfl⟩ rfl rfl ?_
      refine xcall 16 [.ref 66, .int _, .int _] [] hH ⟨u226, _, rfl⟩ rfl rfl rfl rfl rfl (k_third hH (by omega) (by omega) (by omega) (by omega) (fun z13 h13 => ⟨_, rfl, ?_⟩))
      rw [show wa.toInt.toNat = a by omega, show wb.toInt.toNat = b by omega, tt a b (by omega) (by omega)] at h13
      refine xild 17 ⟨u226, _, rfl⟩ rfl rfl ?_
      refine xcmp_eq 20 ⟨u226, _, rfl⟩ rfl (fun c17 => ?_) (fun c17 => ?_)
      · have nb : ¬ cyB T a b x = true := fun z => by
          obtain ⟨z1, z2, z3, z4, z5⟩ := cB.mp z
          omega
        refine xcst 31 (0) ⟨u226, _, rfl⟩ rfl (by decide) (fun z30 h30 => ?_)
        exact xretB ⟨u226, _, rfl⟩ rfl (by omega) (hR _ hp hH (bFr.refl _ _) (by rw [if_neg nb]; exact h30) (fun z => absurd z nb))
      · refine xald 21 ⟨u226, _, rfl⟩ rfl rfl ?_
        refine xild 22 ⟨u226, _, rfl⟩ rfl rfl ?_
        refine xild 23 ⟨u226, _, rfl⟩ rfl rfl ?_
        refine xild 24 ⟨u226, _, rfl⟩ rfl rfl ?_
        refine xcall 27 [.ref 66, .int _, .int _, .int _] [] hH ⟨u226, _, rfl⟩ rfl rfl rfl rfl rfl (k_225E hH hB ha hb aV bV hx xV' (fun z24 hp24 hH24 F24 h24 r24 => ⟨_, rfl, ?_⟩))
        refine xif_ne 30 ⟨u226, _, rfl⟩ rfl (fun c27 => ?_) (fun c27 => ?_)
        · have cp : 0 < cyL T a b x := by
            by_cases g : 0 < cyL T a b x
            · exact g
            · rw [if_neg g] at h24; omega
          obtain ⟨m24, q24⟩ := r24 cp
          refine xcst 33 (1) ⟨u226, _, rfl⟩ rfl (by decide) (fun z32 h32 => ?_)
          refine xist2 35 ⟨u226, _, rfl⟩ rfl rfl ?_
          exact l226E (a := a) (b := b) hH24 hx (cyL_s hT cp).1 m24 q24 (fun z hz => hR z hp24 hH24 F24 (by
            rw [hz]
            by_cases g : ∀ k, k < cyL T a b x → x ≤ rk T a b x k
            · rw [if_pos g, if_pos (cB.mpr ⟨by omega, by omega, by omega, cp, g⟩)]
            · rw [if_neg g, if_neg (fun q => g (cB.mp q).2.2.2.2)]) (fun _ => ⟨m24, q24⟩)) (cyL T a b x - 1) 1 _ h32 (by omega) (fun j hj => by
            rw [show j = 0 by omega]
            exact Nat.le_refl x)
        · have nb : ¬ cyB T a b x = true := fun z => by
            obtain ⟨z1, z2, z3, z4, z5⟩ := cB.mp z
            rw [if_pos z4] at h24; omega
          refine xcst 31 (0) ⟨u226, _, rfl⟩ rfl (by decide) (fun z30 h30 => ?_)
          exact xretB ⟨u226, _, rfl⟩ rfl (by omega) (hR _ hp24 hH24 F24 (by rw [if_neg nb]; exact h30) (fun z => absurd z nb))
theorem fL_at {B : Nat → Bool} {n m q : Nat} (h : B n = true) (e : (fL B n).length = q) (hm : n < m) : q < (fL B m).length ∧ (fL B m).getD q 0 = n := by
  have l1 : (fL B (n + 1)).length = q + 1 := by rw [fL_add h, List.length_append, List.length_singleton, e]
  have l2 := fL_le (B := B) (show n + 1 ≤ m by omega)
  have hq : q < (fL B m).length := by omega
  obtain ⟨g1, g2, g3⟩ := fL_get (B := B) m q hq
  refine ⟨hq, ?_⟩
  rcases Nat.lt_trichotomy ((fL B m).getD q 0) n with g | g | g
  · have l3 := fL_le (B := B) (show (fL B m).getD q 0 + 1 ≤ n by omega)
    rw [fL_add g1, List.length_append, List.length_singleton, g3, e] at l3
    omega
  · exact g
  · have l3 := fL_le (B := B) (show n + 1 ≤ (fL B m).getD q 0 by omega)
    rw [g3, l1] at l3
    omega
theorem l228E {d V a b : Nat} {T : sT} {hp0 : amH} {R : xQ} {wa wb wq : Int32} (hB0 : rdOk hp0 V T) (ha : wa.toInt = (a : Int)) (hb : wb.toInt = (b : Int)) (aV : a < V) (bV : b < V)
    (hR : ∀ (z : Int32) hp1, bHk 84 bTT hp1 → bFr wWkE hp0 hp1 → z.toInt = (if 0 ≤ wq.toInt ∧ wq.toInt < (((cyS T a b V).length : Nat) : Int) then 1 else 0) → (0 ≤ wq.toInt → wq.toInt < (((cyS T a b V).length : Nat) : Int) → rN hp1 66 17 = ((cyL T a b ((cyS T a b V).getD wq.toInt.toNat 0) : Nat) : Int) ∧ ∀ k, k < cyL T a b ((cyS T a b V).getD wq.toInt.toNat 0) → rN hp1 78 k = ((rk T a b ((cyS T a b V).getD wq.toInt.toNat 0) k : Nat) : Int)) → R (.inl (some (.int z))) hp1) :
    ∀ (jj i : Nat) (w wi : Int32) (hp : amH), wi.toInt = (i : Int) → i + jj = V → w.toInt = wq.toInt - (((cyS T a b i).length : Nat) : Int) → (0 ≤ wq.toInt → 0 ≤ w.toInt) → bHk 84 bTT hp → bFr wWkE hp0 hp → xV (d + 3) am_m228 6 [some (.ref 66), some (.int wa), some (.int wb), some (.int wq), some (.int w), some (.int wi)] [] hp R := by
  have hT : sOk V T := hB0.2.1
  have hV := hT.2.1
  intro jj
  induction jj with
  | zero =>
    intro i w wi hp hwi hj hw hn hH hF
    have q0 : rN hp 67 0 = (V : Int) := (r_fr hF rfl).trans hB0.1
    have ei : i = V := by omega
    rw [ei] at hw
    refine xild2 8 ⟨u228, _, rfl⟩ rfl rfl ?_
    refine xald 9 ⟨u228, _, rfl⟩ rfl rfl ?_
    refine xcall 12 [.ref 66] [.int _] hH ⟨u228, _, rfl⟩ rfl rfl rfl rfl rfl (k_points hH (fun z9 h9 => ⟨_, rfl, ?_⟩))
    refine xcmp_ge 15 ⟨u228, _, rfl⟩ rfl (fun c12 => ?_) (fun c12 => ?_)
    · refine xcst 51 (0) ⟨u228, _, rfl⟩ rfl (by decide) (fun z50 h50 => ?_)
      exact xretB ⟨u228, _, rfl⟩ rfl (by omega) (hR _ hp hH hF (by rw [if_neg (by omega)]; exact h50) (fun z1 z2 => by omega))
    · omega
  | succ jj ih =>
    intro i w wi hp hwi hj hw hn hH hF
    have q0 : rN hp 67 0 = (V : Int) := (r_fr hF rfl).trans hB0.1
    have hB : rdOk hp V T := rdOk_fr hB0 (fun i => r_fr hF rfl)
    have em := aMin wq
    have ex := aMax wq
    have li := fL_n (B := cyB T a b) i
    have ly : cyB T a b i = true → (cyS T a b (i + 1)).length = (cyS T a b i).length + 1 := fun h => by rw [show cyS T a b (i + 1) = cyS T a b i ++ [i] from fL_add h, List.length_append, List.length_singleton]
    have ln : ¬ cyB T a b i = true → (cyS T a b (i + 1)).length = (cyS T a b i).length := fun h => by rw [show cyS T a b (i + 1) = cyS T a b i from fL_skip h]
    have li : (cyS T a b i).length ≤ i := li
    refine xild2 8 ⟨u228, _, rfl⟩ rfl rfl ?_
    refine xald 9 ⟨u228, _, rfl⟩ rfl rfl ?_
    refine xcall 12 [.ref 66] [.int _] hH ⟨u228, _, rfl⟩ rfl rfl rfl rfl rfl (k_points hH (fun z9 h9 => ⟨_, rfl, ?_⟩))
    refine xcmp_ge 15 ⟨u228, _, rfl⟩ rfl (fun c12 => ?_) (fun c12 => ?_)
    · omega
    · refine xild2 17 ⟨u228, _, rfl⟩ rfl rfl ?_
      refine xif_lt 20 ⟨u228, _, rfl⟩ rfl (fun c17 => ?_) (fun c17 => ?_)
      · refine xcst 51 (0) ⟨u228, _, rfl⟩ rfl (by decide) (fun z50 h50 => ?_)
        exact xretB ⟨u228, _, rfl⟩ rfl (by omega) (hR _ hp hH hF (by rw [if_neg (by omega)]; exact h50) (fun z1 z2 => by omega))
      · refine xald 21 ⟨u228, _, rfl⟩ rfl rfl ?_
        refine xild 22 ⟨u228, _, rfl⟩ rfl rfl ?_
        refine xild 23 ⟨u228, _, rfl⟩ rfl rfl ?_
        refine xild2 25 ⟨u228, _, rfl⟩ rfl rfl ?_
        refine xcall 28 [.ref 66, .int _, .int _, .int _] [] hH ⟨u228, _, rfl⟩ rfl rfl rfl rfl rfl (k_226E (x := i) hH hB ha hb aV bV hwi (by omega) (fun z25 hp25 hH25 F25 h25 r25 => ⟨_, rfl, ?_⟩))
        refine xif_ne 31 ⟨u228, _, rfl⟩ rfl (fun c28 => ?_) (fun c28 => ?_)
        · have yb : cyB T a b i = true := by
            by_cases g : cyB T a b i = true
            · exact g
            · rw [if_neg g] at h25; omega
          have l1 := ly yb
          obtain ⟨m25, q25⟩ := r25 yb
          refine xild2 36 ⟨u228, _, rfl⟩ rfl rfl ?_
          refine xif_ne 39 ⟨u228, _, rfl⟩ rfl (fun c36 => ?_) (fun c36 => ?_)
          · refine xinc 44 (-1) ⟨u228, _, rfl⟩ rfl rfl rfl (by decide) (by omega) (by omega) (fun z41 h41 => ?_)
            refine xinc 47 (1) ⟨u228, _, rfl⟩ rfl rfl rfl (by decide) (by omega) (by omega) (fun z44 h44 => ?_)
            refine xgoto ⟨u228, _, rfl⟩ ?_
            exact ih (i + 1) z41 z44 hp25 (by omega) (by omega) (by omega) (by omega) hH25 (hF.trans F25)
          · refine xcst 40 (1) ⟨u228, _, rfl⟩ rfl (by decide) (fun z39 h39 => ?_)
            have at1 := fL_at (m := V) yb (show (cyS T a b i).length = wq.toInt.toNat by omega) (by omega)
            obtain ⟨at1, at2⟩ := at1
            have at1 : wq.toInt.toNat < (cyS T a b V).length := at1
            have at2 : (cyS T a b V).getD wq.toInt.toNat 0 = i := at2
            exact xretB ⟨u228, _, rfl⟩ rfl (by omega) (hR _ hp25 hH25 (hF.trans F25) (by rw [if_pos (by omega)]; exact h39) (fun _ _ => by rw [at2]; exact ⟨m25, q25⟩))
        · have nb : ¬ cyB T a b i = true := fun z => by rw [if_pos z] at h25; omega
          have l1 := ln nb
          refine xgoto ⟨u228, _, rfl⟩ ?_
          refine xinc 47 (1) ⟨u228, _, rfl⟩ rfl rfl rfl (by decide) (by omega) (by omega) (fun z44 h44 => ?_)
          refine xgoto ⟨u228, _, rfl⟩ ?_
          exact ih (i + 1) w z44 hp25 (by omega) (by omega) (by omega) (by omega) hH25 (hF.trans F25)
theorem k_228E {d V a b : Nat} {T : sT} {hp : amH} {R : xQ} {wa wb wq : Int32} (hH : bHk 84 bTT hp) (hB : rdOk hp V T) (ha : wa.toInt = (a : Int)) (hb : wb.toInt = (b : Int)) (aV : a < V) (bV : b < V)
    (hR : ∀ (z : Int32) hp1, bHk 84 bTT hp1 → bFr wWkE hp hp1 → z.toInt = (if 0 ≤ wq.toInt ∧ wq.toInt < (((cyS T a b V).length : Nat) : Int) then 1 else 0) → (0 ≤ wq.toInt → wq.toInt < (((cyS T a b V).length : Nat) : Int) → rN hp1 66 17 = ((cyL T a b ((cyS T a b V).getD wq.toInt.toNat 0) : Nat) : Int) ∧ ∀ k, k < cyL T a b ((cyS T a b V).getD wq.toInt.toNat 0) → rN hp1 78 k = ((rk T a b ((cyS T a b V).getD wq.toInt.toNat 0) k : Nat) : Int)) → R (.inl (some (.int z))) hp1) : xK (d + 3) 228 [.ref 66, .int wa, .int wb, .int wq] hp R := by
  refine xin (M := am_m228) rfl rfl rfl ?_
  refine xild 1 ⟨u228, _, rfl⟩ rfl rfl ?_
  refine xist2 3 ⟨u228, _, rfl⟩ rfl rfl ?_
  refine xcst 4 (0) ⟨u228, _, rfl⟩ rfl (by decide) (fun z3 h3 => ?_)
  refine xist2 6 ⟨u228, _, rfl⟩ rfl rfl ?_
  exact l228E hB ha hb aV bV hR V 0 _ _ hp h3 (by omega) (by show wq.toInt = wq.toInt - ((0 : Nat) : Int); omega) (fun z => z) hH (bFr.refl _ _)
end
