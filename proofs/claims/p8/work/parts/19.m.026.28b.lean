/-! ===== the class lists its triples: all ===== -/
theorem l18i {d : Nat} {hp0 : amH} {R : xQ} {o V x : Nat} {T : sT} {a : Int32} (ho : bo o) (ha : a.toInt = (x : Int)) (hx : x < V)
    (hQ : ∀ hp (y : Int32) (w : Option Value), bHk 84 bTT hp → bFx [o, o + 2, o + 4] hp0 hp → bdOk hp o V T → lsN hp o T (15 * (x + 1)) → xV (d + 3) am_m18 52 [some (.ref o), some (.int a), some (.int y), w] [] hp R) :
    ∀ (jj y : Nat) (b : Int32) (hp : amH) (w : Option Value), bHk 84 bTT hp → bFx [o, o + 2, o + 4] hp0 hp → bdOk hp o V T → lsN hp o T (15 * x + y) → b.toInt = (y : Int) → x < y → y + jj = V → xV (d + 3) am_m18 19 [some (.ref o), some (.int a), some (.int b), w] [] hp R := by
  intro jj
  induction jj with
  | zero =>
    intro y b hp w hH hF hB hL hb hxy hj
    have hV := hB.2.1.2.1
    have bV := hB.1
    refine xild 20 ⟨u18, _, rfl⟩ rfl rfl ?_
    refine xald 21 ⟨u18, _, rfl⟩ rfl rfl ?_
    refine xgetC 24 hH ⟨u18, _, rfl⟩ rfl (bo_lt ho) (by decide) (bo_T ho) rfl (by decide) (fun z21 h21 => ?_)
    refine xcmp_ge 27 ⟨u18, _, rfl⟩ rfl (fun c24 => ?_) (fun c24 => ?_)
    · have e : trL T (15 * (x + 1)) = trL T (15 * x + y) := trL_no (by omega) (fun k k1 k2 => decide_eq_false (fun z => by
        rw [show k / 15 = x by omega] at z
        rcases hB.2.1.2.2 x (k % 15) with g | ⟨c, g1, g2, g3, -⟩ <;> omega))
      refine hQ hp b w hH hF hB ?_
      unfold lsN
      rw [e]
      exact hL
    · omega
  | succ jj ih =>
    intro y b hp w hH hF hB hL hb hxy hj
    have hV := hB.2.1.2.1
    have bV := hB.1
    refine xild 20 ⟨u18, _, rfl⟩ rfl rfl ?_
    refine xald 21 ⟨u18, _, rfl⟩ rfl rfl ?_
    refine xgetC 24 hH ⟨u18, _, rfl⟩ rfl (bo_lt ho) (by decide) (bo_T ho) rfl (by decide) (fun z21 h21 => ?_)
    refine xcmp_ge 27 ⟨u18, _, rfl⟩ rfl (fun c24 => ?_) (fun c24 => ?_)
    · omega
    · refine xald 28 ⟨u18, _, rfl⟩ rfl rfl ?_
      refine xild 29 ⟨u18, _, rfl⟩ rfl rfl ?_
      refine xild 30 ⟨u18, _, rfl⟩ rfl rfl ?_
      refine xcallC 33 (o := o) [.int _, .int _] [] hH ⟨u18, _, rfl⟩ rfl rfl (bo_lt ho) (bo_T ho) (by decide) rfl ⟨rfl, rfl, rfl, rfl⟩ rfl (k_thd ho hH hB (fun z30 h30 => ⟨_, rfl, ?_⟩))
      rw [if_pos (by omega), show a.toInt.toNat = x by omega, show b.toInt.toNat = y by omega] at h30
      refine xist 34 ⟨u18, _, rfl⟩ rfl rfl ?_
      refine xild 35 ⟨u18, _, rfl⟩ rfl rfl ?_
      refine xild 36 ⟨u18, _, rfl⟩ rfl rfl ?_
      refine xcmp_le 39 ⟨u18, _, rfl⟩ rfl (fun c36 => ?_) (fun c36 => ?_)
      · refine xinc 49 (1) ⟨u18, _, rfl⟩ rfl rfl rfl (by decide) (by omega) (by omega) (fun z46 h46 => ?_)
        refine xgoto ⟨u18, _, rfl⟩ ?_
        have e : trL T (15 * x + (y + 1)) = trL T (15 * x + y) := trL_no (by omega) (fun k k1 k2 => decide_eq_false (fun z => by
          rw [show k / 15 = x by omega, show k % 15 = y by omega] at z
          omega))
        exact ih (y + 1) _ hp _ hH hF hB (by unfold lsN; rw [e]; exact hL) (by omega) (by omega) (by omega)
      · obtain ⟨c, ec, c1, c2, c3, -⟩ := sOk_at hB.2.1 (rfl : T x y = _) (by omega)
        refine xald 40 ⟨u18, _, rfl⟩ rfl rfl ?_
        refine xild 41 ⟨u18, _, rfl⟩ rfl rfl ?_
        refine xild 42 ⟨u18, _, rfl⟩ rfl rfl ?_
        refine xild 43 ⟨u18, _, rfl⟩ rfl rfl ?_
        refine xcallC 46 (o := o) [.int _, .int _, .int _] [] hH ⟨u18, _, rfl⟩ rfl rfl (bo_lt ho) (bo_T ho) (by decide) rfl ⟨rfl, rfl, rfl, rfl⟩ rfl (k_nmb (z := c) ho hH hB rfl hL ha hb (by omega) hxy (by omega) (by omega) ec (fun hp43 hH43 F43 A43 L43 => ⟨_, rfl, ?_⟩))
        refine xinc 49 (1) ⟨u18, _, rfl⟩ rfl rfl rfl (by decide) (by omega) (by omega) (fun z46 h46 => ?_)
        refine xgoto ⟨u18, _, rfl⟩ ?_
        exact ih (y + 1) _ hp43 _ hH43 (hF.trans F43) (bdOk_fr hB A43 (fun i => bFx_n F43 (by simp)) (fun i => bFx_n F43 (by simp))) L43 (by omega) (by omega) (by omega)
theorem l18o {d : Nat} {hp0 : amH} {R : xQ} {o V : Nat} {T : sT} (ho : bo o) (hR : ∀ hp1, bHk 84 bTT hp1 → bFx [o, o + 2, o + 4] hp0 hp1 → bdOk hp1 o V T → lsN hp1 o T 225 → R (.inl none) hp1) :
    ∀ (jj x : Nat) (a : Int32) (hp : amH) (v w : Option Value), bHk 84 bTT hp → bFx [o, o + 2, o + 4] hp0 hp → bdOk hp o V T → lsN hp o T (15 * x) → a.toInt = (x : Int) → x + jj = V → xV (d + 3) am_m18 7 [some (.ref o), some (.int a), v, w] [] hp R := by
  intro jj
  induction jj with
  | zero =>
    intro x a hp v w hH hF hB hL ha hj
    have hV := hB.2.1.2.1
    have bV := hB.1
    refine xild 8 ⟨u18, _, rfl⟩ rfl rfl ?_
    refine xald 9 ⟨u18, _, rfl⟩ rfl rfl ?_
    refine xgetC 12 hH ⟨u18, _, rfl⟩ rfl (bo_lt ho) (by decide) (bo_T ho) rfl (by decide) (fun z9 h9 => ?_)
    refine xcmp_ge 15 ⟨u18, _, rfl⟩ rfl (fun c12 => ?_) (fun c12 => ?_)
    · have e : trL T 225 = trL T (15 * x) := trL_no (by omega) (fun k k1 k2 => decide_eq_false (fun z => by
        rcases hB.2.1.2.2 (k / 15) (k % 15) with g | ⟨c, g1, g2, g3, -⟩ <;> omega))
      exact xretV ⟨u18, _, rfl⟩ rfl (hR hp hH hF hB (by unfold lsN; rw [e]; exact hL))
    · omega
  | succ jj ih =>
    intro x a hp v w hH hF hB hL ha hj
    have hV := hB.2.1.2.1
    have bV := hB.1
    refine xild 8 ⟨u18, _, rfl⟩ rfl rfl ?_
    refine xald 9 ⟨u18, _, rfl⟩ rfl rfl ?_
    refine xgetC 12 hH ⟨u18, _, rfl⟩ rfl (bo_lt ho) (by decide) (bo_T ho) rfl (by decide) (fun z9 h9 => ?_)
    refine xcmp_ge 15 ⟨u18, _, rfl⟩ rfl (fun c12 => ?_) (fun c12 => ?_)
    · omega
    · refine xild 16 ⟨u18, _, rfl⟩ rfl rfl ?_
      refine xcst 17 (1) ⟨u18, _, rfl⟩ rfl (by decide) (fun z16 h16 => ?_)
      refine xadd 18 _ ⟨u18, _, rfl⟩ rfl rfl (by omega) (by omega) (fun z17 h17 => ?_)
      refine xist 19 ⟨u18, _, rfl⟩ rfl rfl ?_
      have e : trL T (15 * x + (x + 1)) = trL T (15 * x) := trL_no (by omega) (fun k k1 k2 => decide_eq_false (fun z => by
        rw [show k / 15 = x by omega] at z
        omega))
      refine l18i ho ha (by omega) (fun hp1 y1 w1 g1 g2 g3 g4 => ?_) (V - (x + 1)) (x + 1) _ hp w hH hF hB (by unfold lsN; rw [e]; exact hL) (by omega) (by omega) (by omega)
      refine xinc 55 (1) ⟨u18, _, rfl⟩ rfl rfl rfl (by decide) (by omega) (by omega) (fun z52 h52 => ?_)
      refine xgoto ⟨u18, _, rfl⟩ ?_
      exact ih (x + 1) _ hp1 _ _ g1 g2 g3 g4 (by omega) (by omega)
theorem k_list {d : Nat} {hp : amH} {R : xQ} {o V : Nat} {T : sT} (ho : bo o) (hH : bHk 84 bTT hp) (hB : bdOk hp o V T) (hR : ∀ hp1, bHk 84 bTT hp1 → bFx [o, o + 2, o + 4] hp hp1 → bdOk hp1 o V T → lsN hp1 o T 225 → R (.inl none) hp1) : xK (d + 3) 18 [.ref o] hp R := by
  have bV := hB.1
  have hV := hB.2.1.2.1
  refine xin (M := am_m18) rfl rfl (by unfold xAv; simp [amOk, bo_lt ho, Value.category]) ?_
  refine xald 1 ⟨u18, _, rfl⟩ rfl rfl ?_
  refine xcst 2 (0) ⟨u18, _, rfl⟩ rfl (by decide) (fun z1 h1 => ?_)
  refine xputC 5 hH ⟨u18, _, rfl⟩ rfl (bo_lt ho) (by decide) (bo_T ho) rfl (by decide) ⟨rfl, rfl⟩ (by omega) (by omega) (fun hp2 hH2 U2 => ?_)
  have s2 := U2.1
  have n2_o_0 : rN hp2 (o) 0 = rN hp (o) 0 := rU_ne U2 (by omega)
  refine xcst 6 (0) ⟨u18, _, rfl⟩ rfl (by decide) (fun z5 h5 => ?_)
  refine xist 7 ⟨u18, _, rfl⟩ rfl rfl ?_
  refine xpad 2 ?_
  exact l18o ho hR V 0 _ hp2 _ _ hH2 (bFx_U U2 (by simp)) (bdOk_fr hB n2_o_0 (fun i => rU_ne U2 (by omega)) (fun i => rU_ne U2 (by omega))) ⟨by rw [s2]; exact h1, fun t ht => absurd ht (Nat.not_lt_zero t), fun t u v ht => absurd ht (Nat.not_lt_zero t)⟩ (by omega) (by omega)
