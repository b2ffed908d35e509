/-! ===== the class's boards: laid empty ===== -/
theorem op_E {V p : Nat} (hV : V ≤ 15) : opN V sE p = if p < V then ndif (2 ^ V - 1) (2 ^ p) else 0 := by
  apply Nat.eq_of_testBit_eq
  intro i
  rw [op_test hV]
  split
  · next h =>
    rw [nd_test, p2_test, Nat.testBit_two_pow_sub_one]
    by_cases e : i = p
    · subst e; simp
    · have e2 : ¬ p = i := fun z => e z.symm
      simp [h, e, e2, sE]
  · next h => rw [decide_eq_false (by omega), Nat.zero_testBit]
theorem l1b {d : Nat} {hp0 : amH} {R : xQ} {o V : Nat} {a : Int32} {v : Option Value} (ho : bo o) (hV : V ≤ 15) (hV3 : 3 ≤ V) (hR : ∀ hp1, bHk 84 bTT hp1 → bFx [o, o + 1, o + 3] hp0 hp1 → bdOk hp1 o V sE → rN hp1 o 1 = 0 → R (.inl none) hp1) :
    ∀ (jj q : Nat) (i : Int32) (hp : amH), bHk 84 bTT hp → bFx [o, o + 1, o + 3] hp0 hp → rN hp o 0 = (V : Int) → rN hp o 1 = 0 → (∀ j, j < 225 → rN hp (o + 1) j = -1) → (∀ p, p < q → rN hp (o + 3) p = ((opN V sE p : Nat) : Int)) → i.toInt = (q : Int) → q + jj = 15 → xV (d + 1) am_m1 45 [some (.ref o), some (.int a), some (.int i)] [] hp R := by
  intro jj
  induction jj with
  | zero =>
    intro q i hp hH hF h0 h1 h2 h3 hi hq
    refine xild 46 ⟨u1, _, rfl⟩ rfl rfl ?_
    refine xald 47 ⟨u1, _, rfl⟩ rfl rfl ?_
    refine xgetD 50 (o + 3) hH ⟨u1, _, rfl⟩ rfl (bo_lt ho) (by decide) (bo_T ho) rfl (by decide) ?_
    refine xlen 51 hH ⟨u1, _, rfl⟩ rfl (bo_lt3 ho) (bo_T3 ho) (by decide) (by decide) (fun z50 h50 => ?_)
    refine xcmp_ge 54 ⟨u1, _, rfl⟩ rfl (fun c51 => ?_) (fun c51 => ?_)
    · exact xretV ⟨u1, _, rfl⟩ rfl (hR hp hH hF ⟨h0, sOk_E hV3 hV, fun u v hu hv => by rw [h2 _ (by omega)]; rfl, fun u v _ => rfl, fun p hp => h3 p (by omega)⟩ h1)
    · omega
  | succ jj ih =>
    intro q i hp hH hF h0 h1 h2 h3 hi hq
    have oE := op_E (p := q) hV
    have ol := op_lt V sE q
    have hsl := (i_shlV (o := 1) (c := 0) (V := 0) rfl rfl (by decide))
    have hp15 : 2 ^ V - 1 < 32768 := by
      have : 2 ^ V ≤ 2 ^ 15 := Nat.pow_le_pow_right (by decide) hV
      omega
    refine xild 46 ⟨u1, _, rfl⟩ rfl rfl ?_
    refine xald 47 ⟨u1, _, rfl⟩ rfl rfl ?_
    refine xgetD 50 (o + 3) hH ⟨u1, _, rfl⟩ rfl (bo_lt ho) (by decide) (bo_T ho) rfl (by decide) ?_
    refine xlen 51 hH ⟨u1, _, rfl⟩ rfl (bo_lt3 ho) (bo_T3 ho) (by decide) (by decide) (fun z50 h50 => ?_)
    refine xcmp_ge 54 ⟨u1, _, rfl⟩ rfl (fun c51 => ?_) (fun c51 => ?_)
    · omega
    · refine xald 55 ⟨u1, _, rfl⟩ rfl rfl ?_
      refine xgetD 58 (o + 3) hH ⟨u1, _, rfl⟩ rfl (bo_lt ho) (by decide) (bo_T ho) rfl (by decide) ?_
      refine xild 59 ⟨u1, _, rfl⟩ rfl rfl ?_
      refine xild 60 ⟨u1, _, rfl⟩ rfl rfl ?_
      refine xald 61 ⟨u1, _, rfl⟩ rfl rfl ?_
      refine xgetC 64 hH ⟨u1, _, rfl⟩ rfl (bo_lt ho) (by decide) (bo_T ho) rfl (by decide) (fun z61 h61 => ?_)
      refine xcmp_ge 67 ⟨u1, _, rfl⟩ rfl (fun c64 => ?_) (fun c64 => ?_)
      · rw [if_neg (by omega)] at oE
        refine xcst 81 (0) ⟨u1, _, rfl⟩ rfl (by decide) (fun z80 h80 => ?_)
        refine xiast 82 (i).toInt.toNat hH ⟨u1, _, rfl⟩ rfl (bo_lt3 ho) (bo_T3 ho) (by omega) (by omega) (by omega) (by omega) (fun hp81 hH81 U81 => ?_)
        have s81 := U81.1
        refine xinc 85 (1) ⟨u1, _, rfl⟩ rfl rfl rfl (by decide) (by omega) (by omega) (fun z82 h82 => ?_)
        refine xgoto ⟨u1, _, rfl⟩ ?_
        exact ih (q + 1) _ hp81 hH81 (hF.trans (bFx_U U81 (by simp))) (by rw [rU_ne U81 (by omega)]; exact h0) (by rw [rU_ne U81 (by omega)]; exact h1) (fun j hj => by rw [rU_ne U81 (by omega)]; exact h2 j hj) (fun p hp => by rcases Nat.lt_or_ge p q with g | g; rw [rU_ne U81 (by omega)]; exact h3 p g; rw [show p = q by omega]; have e := U81.1; rw [show i.toInt.toNat = q by omega] at e; rw [e]; omega) (by omega) (by omega)
      · rw [if_pos (by omega)] at oE
        refine xald 68 ⟨u1, _, rfl⟩ rfl rfl ?_
        refine xcallC 71 (o := o) [] [.int _, .ref (o + 3)] hH ⟨u1, _, rfl⟩ rfl rfl (bo_lt ho) (bo_T ho) (by decide) rfl ⟨rfl, rfl, rfl, rfl⟩ (by simp [amOkS, amOk, bo_lt ho, bo_lt1 ho, bo_lt2 ho, bo_lt3 ho, bo_lt4 ho]) (k_all ho hH h0 (fun z68 h68 => ⟨_, rfl, ?_⟩))
        refine xcst 72 (1) ⟨u1, _, rfl⟩ rfl (by decide) (fun z71 h71 => ?_)
        refine xild 73 ⟨u1, _, rfl⟩ rfl rfl ?_
        refine xshl 74 ⟨u1, _, rfl⟩ rfl ?_
        refine xcst 75 (-1) ⟨u1, _, rfl⟩ rfl (by decide) (fun z74 h74 => ?_)
        refine xxor 76 ⟨u1, _, rfl⟩ rfl ?_
        refine xand 77 ⟨u1, _, rfl⟩ rfl ?_
        have w := i_nd h68 (i_shl (n := q) h71 (by omega) (by omega)).1 hp15 (by have := (i_shl (n := q) h71 (show i.toInt = (q : Int) by omega) (by omega)).2; omega) h74
        refine xgoto ⟨u1, _, rfl⟩ ?_
        refine xiast 82 (i).toInt.toNat hH ⟨u1, _, rfl⟩ rfl (bo_lt3 ho) (bo_T3 ho) (by omega) (by omega) (by omega) (by omega) (fun hp81 hH81 U81 => ?_)
        have s81 := U81.1
        refine xinc 85 (1) ⟨u1, _, rfl⟩ rfl rfl rfl (by decide) (by omega) (by omega) (fun z82 h82 => ?_)
        refine xgoto ⟨u1, _, rfl⟩ ?_
        exact ih (q + 1) _ hp81 hH81 (hF.trans (bFx_U U81 (by simp))) (by rw [rU_ne U81 (by omega)]; exact h0) (by rw [rU_ne U81 (by omega)]; exact h1) (fun j hj => by rw [rU_ne U81 (by omega)]; exact h2 j hj) (fun p hp => by rcases Nat.lt_or_ge p q with g | g; rw [rU_ne U81 (by omega)]; exact h3 p g; rw [show p = q by omega]; have e := U81.1; rw [show i.toInt.toNat = q by omega] at e; rw [e]; omega) (by omega) (by omega)
theorem l1a {d : Nat} {hp0 : amH} {R : xQ} {o V : Nat} {a : Int32} {v : Option Value} (ho : bo o) (hV : V ≤ 15) (hV3 : 3 ≤ V) (hR : ∀ hp1, bHk 84 bTT hp1 → bFx [o, o + 1, o + 3] hp0 hp1 → bdOk hp1 o V sE → rN hp1 o 1 = 0 → R (.inl none) hp1) :
    ∀ (jj q : Nat) (i : Int32) (hp : amH), bHk 84 bTT hp → bFx [o, o + 1, o + 3] hp0 hp → rN hp o 0 = (V : Int) → rN hp o 1 = 0 → (∀ j, j < q → rN hp (o + 1) j = -1) → i.toInt = (q : Int) → q + jj = 225 → xV (d + 1) am_m1 21 [some (.ref o), some (.int a), some (.int i)] [] hp R := by
  intro jj
  induction jj with
  | zero =>
    intro q i hp hH hF h0 h1 h2 hi hq
    refine xild 22 ⟨u1, _, rfl⟩ rfl rfl ?_
    refine xald 23 ⟨u1, _, rfl⟩ rfl rfl ?_
    refine xgetD 26 (o + 1) hH ⟨u1, _, rfl⟩ rfl (bo_lt ho) (by decide) (bo_T ho) rfl (by decide) ?_
    refine xlen 27 hH ⟨u1, _, rfl⟩ rfl (bo_lt1 ho) (bo_T1 ho) (by decide) (by decide) (fun z26 h26 => ?_)
    refine xcmp_ge 30 ⟨u1, _, rfl⟩ rfl (fun c27 => ?_) (fun c27 => ?_)
    · refine xcst 44 (0) ⟨u1, _, rfl⟩ rfl (by decide) (fun z43 h43 => ?_)
      refine xist 45 ⟨u1, _, rfl⟩ rfl rfl ?_
      exact l1b (v := v) ho hV hV3 hR 15 0 _ hp hH hF h0 h1 (fun j hj => h2 j (by omega)) (fun p hp => by omega) (by omega) (by omega)
    · omega
  | succ jj ih =>
    intro q i hp hH hF h0 h1 h2 hi hq
    refine xild 22 ⟨u1, _, rfl⟩ rfl rfl ?_
    refine xald 23 ⟨u1, _, rfl⟩ rfl rfl ?_
    refine xgetD 26 (o + 1) hH ⟨u1, _, rfl⟩ rfl (bo_lt ho) (by decide) (bo_T ho) rfl (by decide) ?_
    refine xlen 27 hH ⟨u1, _, rfl⟩ rfl (bo_lt1 ho) (bo_T1 ho) (by decide) (by decide) (fun z26 h26 => ?_)
    refine xcmp_ge 30 ⟨u1, _, rfl⟩ rfl (fun c27 => ?_) (fun c27 => ?_)
    · omega
    · refine xald 31 ⟨u1, _, rfl⟩ rfl rfl ?_
      refine xgetD 34 (o + 1) hH ⟨u1, _, rfl⟩ rfl (bo_lt ho) (by decide) (bo_T ho) rfl (by decide) ?_
      refine xild 35 ⟨u1, _, rfl⟩ rfl rfl ?_
      refine xcst 36 (-1) ⟨u1, _, rfl⟩ rfl (by decide) (fun z35 h35 => ?_)
      refine xiast 37 (i).toInt.toNat hH ⟨u1, _, rfl⟩ rfl (bo_lt1 ho) (bo_T1 ho) (by omega) (by omega) (by omega) (by omega) (fun hp36 hH36 U36 => ?_)
      have s36 := U36.1
      refine xinc 40 (1) ⟨u1, _, rfl⟩ rfl rfl rfl (by decide) (by omega) (by omega) (fun z37 h37 => ?_)
      refine xgoto ⟨u1, _, rfl⟩ ?_
      exact ih (q + 1) _ hp36 hH36 (hF.trans (bFx_U U36 (by simp))) (by rw [rU_ne U36 (by omega)]; exact h0) (by rw [rU_ne U36 (by omega)]; exact h1) (fun j hj => by rcases Nat.lt_or_ge j q with g | g; rw [rU_ne U36 (by omega)]; exact h2 j g; rw [show j = q by omega]; have e := U36.1; rw [show i.toInt.toNat = q by omega] at e; omega) (by omega) (by omega)
theorem k_rst {d : Nat} {hp : amH} {R : xQ} {o V : Nat} {a : Int32} (ho : bo o) (hH : bHk 84 bTT hp) (ha : a.toInt = (V : Int)) (hV3 : 3 ≤ V) (hV : V ≤ 15) (hR : ∀ hp1, bHk 84 bTT hp1 → bFx [o, o + 1, o + 3] hp hp1 → bdOk hp1 o V sE → rN hp1 o 1 = 0 → R (.inl none) hp1) : xK (d + 1) 1 [.ref o, .int a] hp R := by
  refine xin (M := am_m1) rfl rfl (by unfold xAv; simp [amOk, bo_lt ho, Value.category]) ?_
  refine xald 1 ⟨u1, _, rfl⟩ rfl rfl ?_
  refine xcst 2 (3) ⟨u1, _, rfl⟩ rfl (by decide) (fun z1 h1 => ?_)
  refine xild 3 ⟨u1, _, rfl⟩ rfl rfl ?_
  refine xbip 5 (15) ⟨u1, _, rfl⟩ rfl (by decide) (fun z3 h3 => ?_)
  refine xcallS 8 [.int _, .int _] [.int _, .ref (o)] hH ⟨u1, _, rfl⟩ rfl rfl rfl (by simp [amOkS, amOk, bo_lt ho, bo_lt1 ho, bo_lt2 ho, bo_lt3 ho, bo_lt4 ho]) rfl (k_min (fun z5 h5 => ⟨_, rfl, ?_⟩))
  refine xcallS 11 [.int _, .int _] [.ref (o)] hH ⟨u1, _, rfl⟩ rfl rfl rfl (by simp [amOkS, amOk, bo_lt ho, bo_lt1 ho, bo_lt2 ho, bo_lt3 ho, bo_lt4 ho]) rfl (k_max (fun z8 h8 => ⟨_, rfl, ?_⟩))
  refine xputC 14 hH ⟨u1, _, rfl⟩ rfl (bo_lt ho) (by decide) (bo_T ho) rfl (by decide) ⟨rfl, rfl⟩ (by omega) (by omega) (fun hp11 hH11 U11 => ?_)
  have s11 := U11.1
  have n11_o_1 : rN hp11 (o) 1 = rN hp (o) 1 := rU_ne U11 (by omega)
  refine xald 15 ⟨u1, _, rfl⟩ rfl rfl ?_
  refine xcst 16 (0) ⟨u1, _, rfl⟩ rfl (by decide) (fun z15 h15 => ?_)
  refine xputC 19 hH11 ⟨u1, _, rfl⟩ rfl (bo_lt ho) (by decide) (bo_T ho) rfl (by decide) ⟨rfl, rfl⟩ (by omega) (by omega) (fun hp16 hH16 U16 => ?_)
  have s16 := U16.1
  have n16_o_0 : rN hp16 (o) 0 = rN hp11 (o) 0 := rU_ne U16 (by omega)
  refine xcst 20 (0) ⟨u1, _, rfl⟩ rfl (by decide) (fun z19 h19 => ?_)
  refine xist 21 ⟨u1, _, rfl⟩ rfl rfl ?_
  exact l1a (v := none) ho hV hV3 hR 225 0 _ hp16 hH16 ((bFx_U U11 (by simp)).trans (bFx_U U16 (by simp))) (by omega) (by omega) (fun j hj => by omega) (by omega) (by omega)
