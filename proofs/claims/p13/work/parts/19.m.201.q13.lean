/-! ===== uncovered on both sides ===== -/
noncomputable def gNg (a : Int) : Int := if a < 0 then 1 else 0
theorem gNg_0 {a : Int} : gNg a = 0 ↔ 0 ≤ a := by unfold gNg; split <;> omega
theorem gNg_1 {a : Int} (h : a < 0) : gNg a = 1 := by unfold gNg; rw [if_pos h]
noncomputable def unB (V : Nat) (T : sT) (n : Nat) : Bool := decide (n / 15 < n % 15 ∧ n % 15 < V ∧ T (n / 15) (n % 15) = -1)
/-- the pairs that no triple covers, before a code -/
noncomputable abbrev unL (V : Nat) (T : sT) (n : Nat) : Nat := (fL (unB V T) n).length
noncomputable def ucV (V : Nat) (T : sT) (x : Nat) : Int := if x < unL V T 225 then ((16 * ((fL (unB V T) 225).getD x 0 / 15) + (fL (unB V T) 225).getD x 0 % 15 : Nat) : Int) else -1
theorem un_in {V a b : Nat} {T : sT} (hb : b < 15) : unB V T (15 * a + b) = true ↔ (a < b ∧ b < V ∧ T a b = -1) := by
  unfold unB
  rw [decide_eq_true_iff, show (15 * a + b) / 15 = a by omega, show (15 * a + b) % 15 = b by omega]
theorem un_s1 {V a b : Nat} {T : sT} (hb : b < 15) (h : a < b ∧ b < V ∧ T a b = -1) : unL V T (15 * a + (b + 1)) = unL V T (15 * a + b) + 1 := by
  unfold unL
  rw [show 15 * a + (b + 1) = (15 * a + b) + 1 by omega, fL_add ((un_in hb).mpr h), List.length_append, List.length_singleton]
theorem un_s0 {V a b : Nat} {T : sT} (hb : b < 15) (h : ¬ (a < b ∧ b < V ∧ T a b = -1)) : unL V T (15 * a + (b + 1)) = unL V T (15 * a + b) := by
  unfold unL
  rw [show 15 * a + (b + 1) = (15 * a + b) + 1 by omega, fL_skip (fun z => h ((un_in hb).mp z))]
theorem un_row {V a b : Nat} {T : sT} (hV : V ≤ 15) (hb : V = b) : unL V T (15 * (a + 1)) = unL V T (15 * a + b) := by
  rw [← hb]
  unfold unL
  rw [fL_no (B := unB V T) (n := 15 * a + V) (n1 := 15 * (a + 1)) (by omega) (fun k k1 k2 => fun z => by
    have z := of_decide_eq_true z
    omega)]
theorem un_beg {V a : Nat} {T : sT} : unL V T (15 * a + (a + 1)) = unL V T (15 * a) := by
  unfold unL
  rw [fL_no (B := unB V T) (n := 15 * a) (n1 := 15 * a + (a + 1)) (by omega) (fun k k1 k2 => fun z => by
    have z := of_decide_eq_true z
    omega)]
theorem un_end {V a : Nat} {T : sT} (hV : V ≤ 15) (ha : V = a) : unL V T 225 = unL V T (15 * a) := by
  rw [← ha]
  unfold unL
  rw [fL_no (B := unB V T) (n := 15 * V) (n1 := 225) (by omega) (fun k k1 k2 => fun z => by
    have z := of_decide_eq_true z
    omega)]
theorem un_hit {V a b : Nat} {T : sT} (hV : V ≤ 15) (h : a < b ∧ b < V ∧ T a b = -1) : ucV V T (unL V T (15 * a + b)) = ((16 * a + b : Nat) : Int) := by
  obtain ⟨h1, h2⟩ := fL_at (m := 225) ((un_in (by omega)).mpr h) rfl (by omega)
  unfold ucV
  rw [if_pos h1, h2, show (15 * a + b) / 15 = a by omega, show (15 * a + b) % 15 = b by omega]
theorem un_le {V : Nat} {T : sT} (n : Nat) : unL V T n ≤ n := fL_n n
theorem u24 : bUp 0 am_m24.1 = true := by decide +kernel
theorem l24i {d x a V : Nat} {T : sT} {hp : amH} {R : xQ} {i wa : Int32} {o : Nat} (ho : bo o) (hH : bHk 84 bTT hp) (hB : bdOk hp o V T) (hi : i.toInt = (x : Int)) (ha : wa.toInt = (a : Int)) (aV : a < V)
    (hR : ∀ z : Int32, z.toInt = ucV V T x → R (.inl (some (.int z))) hp)
    (hQ : ∀ w wb : Int32, w.toInt = ((unL V T (15 * (a + 1)) : Nat) : Int) → unL V T (15 * (a + 1)) ≤ x → xV (d + 2) am_m24 61 [some (.ref o), some (.int i), some (.int w), some (.int wa), some (.int wb)] [] hp R) :
    ∀ (jj b : Nat) (w wb : Int32), wb.toInt = (b : Int) → a < b → b + jj = V → w.toInt = ((unL V T (15 * a + b) : Nat) : Int) → unL V T (15 * a + b) ≤ x → xV (d + 2) am_m24 17 [some (.ref o), some (.int i), some (.int w), some (.int wa), some (.int wb)] [] hp R := by
  have h15 : V ≤ 15 := hB.2.1.2.1
  have b0 := hB.1
  intro jj
  induction jj with
  | zero =>
    intro b w wb hb hab hj hw hle
    have e := un_row (V := V) (a := a) (b := b) (T := T) h15 (by omega)
    refine xild2 19 ⟨u24, _, rfl⟩ rfl rfl ?_
    refine xald 20 ⟨u24, _, rfl⟩ rfl rfl ?_
    refine xgetC 23 hH ⟨u24, _, rfl⟩ rfl (bo_lt ho) (by decide) (bo_T ho) rfl (by decide) (fun z20 h20 => ?_)
    refine xcmp_ge 26 ⟨u24, _, rfl⟩ rfl (fun c23 => ?_) (fun c23 => ?_)
    · exact hQ _ _ (by omega) (by omega)
    · omega
  | succ jj ih =>
    intro b w wb hb hab hj hw hle
    have ul := un_le (V := V) (T := T) (15 * a + b)
    have mw := aMax w
    have s1 := un_s1 (V := V) (a := a) (b := b) (T := T) (by omega)
    have s0 := un_s0 (V := V) (a := a) (b := b) (T := T) (by omega)
    have hit := un_hit (V := V) (a := a) (b := b) (T := T) h15
    refine xild2 19 ⟨u24, _, rfl⟩ rfl rfl ?_
    refine xald 20 ⟨u24, _, rfl⟩ rfl rfl ?_
    refine xgetC 23 hH ⟨u24, _, rfl⟩ rfl (bo_lt ho) (by decide) (bo_T ho) rfl (by decide) (fun z20 h20 => ?_)
    refine xcmp_ge 26 ⟨u24, _, rfl⟩ rfl (fun c23 => ?_) (fun c23 => ?_)
    · omega
    · refine xald 27 ⟨u24, _, rfl⟩ rfl rfl ?_
      refine xild 28 ⟨u24, _, rfl⟩ rfl rfl ?_
      refine xcallC 31 (o := o) [.int _] [] hH ⟨u24, _, rfl⟩ rfl rfl (bo_lt ho) (bo_T ho) (by decide) rfl ⟨rfl, rfl, rfl, rfl⟩ rfl (k_opn (x := a) ho hH hB ha (fun z28 h28 => ⟨_, rfl, ?_⟩))
      refine xild2 33 ⟨u24, _, rfl⟩ rfl rfl ?_
      refine xcallS 36 [.int _, .int _] [] hH ⟨u24, _, rfl⟩ rfl rfl rfl rfl rfl (k_has (m := opN V T a) (n := b) h28 (op_lt V T a) hb (by omega) (fun z33 h33 => ⟨_, rfl, ?_⟩))
      rw [op_test h15] at h33
      have h33 : (z33.toInt = 1 ∧ T a b = -1) ∨ (z33.toInt = 0 ∧ ¬ T a b = -1) := by
        by_cases q : T a b = -1
        · left; rw [h33, if_pos (decide_eq_true ⟨by omega, by omega, by omega, q⟩)]; exact ⟨rfl, q⟩
        · right; rw [h33, if_neg (fun z => q (of_decide_eq_true z).2.2.2)]; exact ⟨rfl, q⟩
      refine xif_eq 39 ⟨u24, _, rfl⟩ rfl (fun c36 => ?_) (fun c36 => ?_)
      · refine xinc 58 (1) ⟨u24, _, rfl⟩ rfl rfl rfl (by decide) (by omega) (by omega) (fun z55 h55 => ?_)
        refine xgoto ⟨u24, _, rfl⟩ ?_
        have s0 := s0 (by omega)
        exact ih (b + 1) _ _ (by omega) (by omega) (by omega) (by omega) (by omega)
      · refine xild 40 ⟨u24, _, rfl⟩ rfl rfl ?_
        refine xild 41 ⟨u24, _, rfl⟩ rfl rfl ?_
        refine xcmp_ne 44 ⟨u24, _, rfl⟩ rfl (fun c41 => ?_) (fun c41 => ?_)
        · refine xinc 55 (1) ⟨u24, _, rfl⟩ rfl rfl rfl (by decide) (by omega) (by omega) (fun z52 h52 => ?_)
          refine xinc 58 (1) ⟨u24, _, rfl⟩ rfl rfl rfl (by decide) (by omega) (by omega) (fun z55 h55 => ?_)
          refine xgoto ⟨u24, _, rfl⟩ ?_
          have s1 := s1 (by omega)
          exact ih (b + 1) _ _ (by omega) (by omega) (by omega) (by omega) (by omega)
        · refine xbip 46 (16) ⟨u24, _, rfl⟩ rfl (by decide) (fun z44 h44 => ?_)
          refine xild 47 ⟨u24, _, rfl⟩ rfl rfl ?_
          refine xmul 48 (16 * Int32.toInt wa) ⟨u24, _, rfl⟩ rfl (by rw [h44]) (by omega) (by omega) (fun z47 h47 => ?_)
          refine xild2 50 ⟨u24, _, rfl⟩ rfl rfl ?_
          refine xadd 51 _ ⟨u24, _, rfl⟩ rfl rfl (by omega) (by omega) (fun z50 h50 => ?_)
          exact xret ⟨u24, _, rfl⟩ rfl (hR _ (by rw [show x = unL V T (15 * a + b) by omega, hit (by omega)]; omega))
theorem l24o {d x V : Nat} {T : sT} {hp : amH} {R : xQ} {i : Int32} {o : Nat} (ho : bo o) (hH : bHk 84 bTT hp) (hB : bdOk hp o V T) (hi : i.toInt = (x : Int))
    (hR : ∀ z : Int32, z.toInt = ucV V T x → R (.inl (some (.int z))) hp) :
    ∀ (jj a : Nat) (w wa : Int32) (v : Option Value), wa.toInt = (a : Int) → a + jj = V → w.toInt = ((unL V T (15 * a) : Nat) : Int) → unL V T (15 * a) ≤ x → xV (d + 2) am_m24 4 [some (.ref o), some (.int i), some (.int w), some (.int wa), v] [] hp R := by
  have h15 : V ≤ 15 := hB.2.1.2.1
  have b0 := hB.1
  intro jj
  induction jj with
  | zero =>
    intro a w wa v ha hj hw hle
    have e := un_end (V := V) (a := a) (T := T) h15 (by omega)
    refine xild 5 ⟨u24, _, rfl⟩ rfl rfl ?_
    refine xald 6 ⟨u24, _, rfl⟩ rfl rfl ?_
    refine xgetC 9 hH ⟨u24, _, rfl⟩ rfl (bo_lt ho) (by decide) (bo_T ho) rfl (by decide) (fun z6 h6 => ?_)
    refine xcmp_ge 12 ⟨u24, _, rfl⟩ rfl (fun c9 => ?_) (fun c9 => ?_)
    · refine xcst 68 (-1) ⟨u24, _, rfl⟩ rfl (by decide) (fun z67 h67 => ?_)
      exact xret ⟨u24, _, rfl⟩ rfl (hR _ (by unfold ucV; rw [if_neg (by omega)]; omega))
    · omega
  | succ jj ih =>
    intro a w wa v ha hj hw hle
    have eb := un_beg (V := V) (a := a) (T := T)
    refine xild 5 ⟨u24, _, rfl⟩ rfl rfl ?_
    refine xald 6 ⟨u24, _, rfl⟩ rfl rfl ?_
    refine xgetC 9 hH ⟨u24, _, rfl⟩ rfl (bo_lt ho) (by decide) (bo_T ho) rfl (by decide) (fun z6 h6 => ?_)
    refine xcmp_ge 12 ⟨u24, _, rfl⟩ rfl (fun c9 => ?_) (fun c9 => ?_)
    · omega
    · refine xild 13 ⟨u24, _, rfl⟩ rfl rfl ?_
      refine xcst 14 (1) ⟨u24, _, rfl⟩ rfl (by decide) (fun z13 h13 => ?_)
      refine xadd 15 _ ⟨u24, _, rfl⟩ rfl rfl (by omega) (by omega) (fun z14 h14 => ?_)
      refine xist2 17 ⟨u24, _, rfl⟩ rfl rfl ?_
      refine l24i ho hH hB hi ha (by omega) hR (fun w1 wb1 r1 r2 => ?_) (V - (a + 1)) (a + 1) _ _ (by omega) (by omega) (by omega) (by omega) (by omega)
      refine xinc 64 (1) ⟨u24, _, rfl⟩ rfl rfl rfl (by decide) (by omega) (by omega) (fun z61 h61 => ?_)
      refine xgoto ⟨u24, _, rfl⟩ ?_
      exact ih (a + 1) _ _ _ (by omega) (by omega) r1 r2
theorem k_24E {d x o V : Nat} {T : sT} {hp : amH} {R : xQ} {i : Int32} (ho : bo o) (hH : bHk 84 bTT hp) (hB : bdOk hp o V T) (hi : i.toInt = (x : Int))
    (hR : ∀ z : Int32, z.toInt = ucV V T x → R (.inl (some (.int z))) hp) : xK (d + 2) 24 [.ref o, .int i] hp R := by
  refine xin (M := am_m24) rfl rfl (by unfold xAv; simp [amOk, bo_lt ho, Value.category]) ?_
  refine xcst 1 (0) ⟨u24, _, rfl⟩ rfl (by decide) (fun z0 h0 => ?_)
  refine xist 2 ⟨u24, _, rfl⟩ rfl rfl ?_
  refine xcst 3 (0) ⟨u24, _, rfl⟩ rfl (by decide) (fun z2 h2 => ?_)
  refine xist 4 ⟨u24, _, rfl⟩ rfl rfl ?_
  refine xpad 1 ?_
  exact l24o ho hH hB hi hR V 0 _ _ _ h2 (by omega) h0 (Nat.zero_le _)
theorem u124 : bUp 0 am_m124.1 = true := by decide +kernel
theorem k_124E {d V n : Nat} {h : Nat → sR} {sv : Option sR} {T : sT} {ty : Nat → Int} {hp : amH} {R : xQ} {a : Int32} (hH : bHk 84 bTT hp) (hS : clS hp (V, T, ty) n h sv)
    (hT : ∀ E hp1, bHk 84 bTT hp1 → cF hp hp1 → clS hp1 (V, T, ty) n h sv → ¬ gNg a.toInt = 0 → ((gNg a.toInt = 1 ∧ E = 1)) → R (.inr E) hp1)
    (hR : ∀ (z : Int32) hp1, bHk 84 bTT hp1 → cF hp hp1 → gNg a.toInt = 0 → clS hp1 (V, T, ty) n h sv → z.toInt = ucV V T a.toInt.toNat → R (.inl (some (.int z))) hp1) : xK (d + 4) 124 [.ref 0, .int a] hp R := by
  have hB : bdOk hp 3 V T := hS.1
  have b0 : rN hp 3 0 = (V : Int) := hB.1
  have hL : lsN hp 3 T 225 := hS.2.1
  have b1 : rN hp 3 1 = (((trL T 225).length : Nat) : Int) := hL.1
  have hT0 : sOk V T := hB.2.1
  have h15 : V ≤ 15 := hT0.2.1
  have l35 : (trL T 225).length ≤ 35 := trL_35 hT0 225
  have nq0 : rN hp 49 0 = ((nQ T : Nat) : Int) := hS.2.2.1.1
  refine xin (M := am_m124) rfl rfl rfl ?_
  refine xild 1 ⟨u124, _, rfl⟩ rfl rfl ?_
  refine xif_ge 4 ⟨u124, _, rfl⟩ rfl (fun c1 => ?_) (fun c1 => ?_)
  · refine xald 15 ⟨u124, _, rfl⟩ rfl rfl ?_
    refine xgetD 18 (3) hH ⟨u124, _, rfl⟩ rfl (by decide) (by decide) rfl rfl (by decide) ?_
    refine xild 19 ⟨u124, _, rfl⟩ rfl rfl ?_
    refine xcallC 22 (o := 3) [.int _] [] hH ⟨u124, _, rfl⟩ rfl rfl (by decide) rfl (by decide) rfl ⟨rfl, rfl, rfl, rfl⟩ rfl (k_24E (o := 3) (x := a.toInt.toNat) (Or.inl rfl) hH hB (by omega) (fun z19 h19 => ⟨_, rfl, ?_⟩))
    exact xret ⟨u124, _, rfl⟩ rfl (hR _ _ hH cF.refl (gNg_0.mpr (by omega)) hS h19)
  · exact xthr ⟨u124, _, rfl⟩ (by decide) rfl (by decide) (hT _ hp hH cF.refl hS (by rw [gNg_1 (by omega)]; decide) ⟨gNg_1 (by omega), rfl⟩)
theorem u268 : bUp 0 am_m268.1 = true := by decide +kernel
theorem l268i {d x a V : Nat} {T : sT} {hp : amH} {R : xQ} {i wa : Int32} (hH : bHk 84 bTT hp) (hB : rdOk hp V T) (hi : i.toInt = (x : Int)) (ha : wa.toInt = (a : Int)) (aV : a < V)
    (hR : ∀ z : Int32, z.toInt = ucV V T x → R (.inl (some (.int z))) hp)
    (hQ : ∀ w wb : Int32, w.toInt + ((unL V T (15 * (a + 1)) : Nat) : Int) = (x : Int) → unL V T (15 * (a + 1)) ≤ x → xV (d + 1) am_m268 85 [some (.ref 66), some (.int i), some (.int w), some (.int wa), some (.int wb)] [] hp R) :
    ∀ (jj b : Nat) (w wb : Int32), wb.toInt = (b : Int) → a < b → b + jj = V → w.toInt + ((unL V T (15 * a + b) : Nat) : Int) = (x : Int) → unL V T (15 * a + b) ≤ x → xV (d + 1) am_m268 41 [some (.ref 66), some (.int i), some (.int w), some (.int wa), some (.int wb)] [] hp R := by
  have h15 : V ≤ 15 := hB.2.1.2.1
  have b0 : rN hp 67 0 = (V : Int) := hB.1
  intro jj
  induction jj with
  | zero =>
    intro b w wb hb hab hj hw hle
    have e := un_row (V := V) (a := a) (b := b) (T := T) h15 (by omega)
    refine xild2 43 ⟨u268, _, rfl⟩ rfl rfl ?_
    refine xald 44 ⟨u268, _, rfl⟩ rfl rfl ?_
    refine xcall 47 [.ref 66] [.int _] hH ⟨u268, _, rfl⟩ rfl rfl rfl rfl rfl (k_points hH (fun z44 h44 => ⟨_, rfl, ?_⟩))
    refine xcmp_ge 50 ⟨u268, _, rfl⟩ rfl (fun c47 => ?_) (fun c47 => ?_)
    · exact hQ _ _ (by omega) (by omega)
    · omega
  | succ jj ih =>
    intro b w wb hb hab hj hw hle
    have ul := un_le (V := V) (T := T) (15 * a + b)
    have mw := aMax w
    have s1 := un_s1 (V := V) (a := a) (b := b) (T := T) (by omega)
    have s0 := un_s0 (V := V) (a := a) (b := b) (T := T) (by omega)
    have hit := un_hit (V := V) (a := a) (b := b) (T := T) h15
    refine xild2 43 ⟨u268, _, rfl⟩ rfl rfl ?_
    refine xald 44 ⟨u268, _, rfl⟩ rfl rfl ?_
    refine xcall 47 [.ref 66] [.int _] hH ⟨u268, _, rfl⟩ rfl rfl rfl rfl rfl (k_points hH (fun z44 h44 => ⟨_, rfl, ?_⟩))
    refine xcmp_ge 50 ⟨u268, _, rfl⟩ rfl (fun c47 => ?_) (fun c47 => ?_)
    · omega
    · refine xald 51 ⟨u268, _, rfl⟩ rfl rfl ?_
      refine xild 52 ⟨u268, _, rfl⟩ rfl rfl ?_
      refine xild2 54 ⟨u268, _, rfl⟩ rfl rfl ?_
      refine xcall 57 [.ref 66, .int _, .int _] [] hH ⟨u268, _, rfl⟩ rfl rfl rfl rfl rfl (k_third hH (by omega) (by omega) (by omega) (by omega) (fun z54 h54 => ⟨_, rfl, ?_⟩))
      have h54 : z54.toInt = T a b := by rw [h54, hB.2.2.1 _ _ (by omega) (by omega), show wa.toInt.toNat = a by omega, show wb.toInt.toNat = b by omega]
      refine xcst 58 (-1) ⟨u268, _, rfl⟩ rfl (by decide) (fun z57 h57 => ?_)
      refine xcmp_eq 61 ⟨u268, _, rfl⟩ rfl (fun c58 => ?_) (fun c58 => ?_)
      · refine xild 65 ⟨u268, _, rfl⟩ rfl rfl ?_
        refine xif_ne 68 ⟨u268, _, rfl⟩ rfl (fun c65 => ?_) (fun c65 => ?_)
        · refine xinc 79 (-1) ⟨u268, _, rfl⟩ rfl rfl rfl (by decide) (by omega) (by omega) (fun z76 h76 => ?_)
          refine xinc 82 (1) ⟨u268, _, rfl⟩ rfl rfl rfl (by decide) (by omega) (by omega) (fun z79 h79 => ?_)
          refine xgoto ⟨u268, _, rfl⟩ ?_
          have s1 := s1 (by omega)
          exact ih (b + 1) _ _ (by omega) (by omega) (by omega) (by omega) (by omega)
        · refine xbip 70 (16) ⟨u268, _, rfl⟩ rfl (by decide) (fun z68 h68 => ?_)
          refine xild 71 ⟨u268, _, rfl⟩ rfl rfl ?_
          refine xmul 72 (16 * Int32.toInt wa) ⟨u268, _, rfl⟩ rfl (by rw [h68]) (by omega) (by omega) (fun z71 h71 => ?_)
          refine xild2 74 ⟨u268, _, rfl⟩ rfl rfl ?_
          refine xadd 75 _ ⟨u268, _, rfl⟩ rfl rfl (by omega) (by omega) (fun z74 h74 => ?_)
          exact xret ⟨u268, _, rfl⟩ rfl (hR _ (by rw [show x = unL V T (15 * a + b) by omega, hit (by omega)]; omega))
      · refine xgoto ⟨u268, _, rfl⟩ ?_
        refine xinc 82 (1) ⟨u268, _, rfl⟩ rfl rfl rfl (by decide) (by omega) (by omega) (fun z79 h79 => ?_)
        refine xgoto ⟨u268, _, rfl⟩ ?_
        have s0 := s0 (by omega)
        exact ih (b + 1) _ _ (by omega) (by omega) (by omega) (by omega) (by omega)
theorem l268o {d x V : Nat} {T : sT} {hp : amH} {R : xQ} {i : Int32} (hH : bHk 84 bTT hp) (hB : rdOk hp V T) (hi : i.toInt = (x : Int))
    (hR : ∀ z : Int32, z.toInt = ucV V T x → R (.inl (some (.int z))) hp) :
    ∀ (jj a : Nat) (w wa : Int32) (v : Option Value), wa.toInt = (a : Int) → a + jj = V → w.toInt + ((unL V T (15 * a) : Nat) : Int) = (x : Int) → unL V T (15 * a) ≤ x → xV (d + 1) am_m268 28 [some (.ref 66), some (.int i), some (.int w), some (.int wa), v] [] hp R := by
  have h15 : V ≤ 15 := hB.2.1.2.1
  have b0 : rN hp 67 0 = (V : Int) := hB.1
  intro jj
  induction jj with
  | zero =>
    intro a w wa v ha hj hw hle
    have e := un_end (V := V) (a := a) (T := T) h15 (by omega)
    refine xild 29 ⟨u268, _, rfl⟩ rfl rfl ?_
    refine xald 30 ⟨u268, _, rfl⟩ rfl rfl ?_
    refine xcall 33 [.ref 66] [.int _] hH ⟨u268, _, rfl⟩ rfl rfl rfl rfl rfl (k_points hH (fun z30 h30 => ⟨_, rfl, ?_⟩))
    refine xcmp_ge 36 ⟨u268, _, rfl⟩ rfl (fun c33 => ?_) (fun c33 => ?_)
    · refine xcst 92 (-1) ⟨u268, _, rfl⟩ rfl (by decide) (fun z91 h91 => ?_)
      exact xret ⟨u268, _, rfl⟩ rfl (hR _ (by unfold ucV; rw [if_neg (by omega)]; omega))
    · omega
  | succ jj ih =>
    intro a w wa v ha hj hw hle
    have eb := un_beg (V := V) (a := a) (T := T)
    refine xild 29 ⟨u268, _, rfl⟩ rfl rfl ?_
    refine xald 30 ⟨u268, _, rfl⟩ rfl rfl ?_
    refine xcall 33 [.ref 66] [.int _] hH ⟨u268, _, rfl⟩ rfl rfl rfl rfl rfl (k_points hH (fun z30 h30 => ⟨_, rfl, ?_⟩))
    refine xcmp_ge 36 ⟨u268, _, rfl⟩ rfl (fun c33 => ?_) (fun c33 => ?_)
    · omega
    · refine xild 37 ⟨u268, _, rfl⟩ rfl rfl ?_
      refine xcst 38 (1) ⟨u268, _, rfl⟩ rfl (by decide) (fun z37 h37 => ?_)
      refine xadd 39 _ ⟨u268, _, rfl⟩ rfl rfl (by omega) (by omega) (fun z38 h38 => ?_)
      refine xist2 41 ⟨u268, _, rfl⟩ rfl rfl ?_
      refine l268i hH hB hi ha (by omega) hR (fun w1 wb1 r1 r2 => ?_) (V - (a + 1)) (a + 1) _ _ (by omega) (by omega) (by omega) (by omega) (by omega)
      refine xinc 88 (1) ⟨u268, _, rfl⟩ rfl rfl rfl (by decide) (by omega) (by omega) (fun z85 h85 => ?_)
      refine xgoto ⟨u268, _, rfl⟩ ?_
      exact ih (a + 1) _ _ _ (by omega) (by omega) r1 r2
theorem k_268E {d V n : Nat} {h : Nat → sR} {sv : Option sR} {T : sT} {ty : Nat → Int} {hp : amH} {R : xQ} {a : Int32} (hH : bHk 84 bTT hp) (hP : P0 hp) (hS : rfS hp (V, T, ty) n h sv)
    (hR : ∀ (z : Int32) hp1, bHk 84 bTT hp1 → P0 hp1 → bFr wM hp hp1 → rN hp1 66 7 = gNg a.toInt → ((¬ gNg a.toInt = 0 ∧ rfS hp1 (V, T, ty) n h sv) ∨ (gNg a.toInt = 0 ∧ rfS hp1 (V, T, ty) n h sv ∧ z.toInt = ucV V T a.toInt.toNat)) → R (.inl (some (.int z))) hp1) : xK (d + 3) 268 [.ref 66, .int a] hp R := by
  have hB : rdOk hp V T := rowOk_rd hS.1
  have b0 : rN hp 67 0 = (V : Int) := hB.1
  have hT0 : sOk V T := hB.2.1
  have h15 : V ≤ 15 := hT0.2.1
  have l35 : (trL T 225).length ≤ 35 := trL_35 hT0 225
  refine xin (M := am_m268) rfl rfl rfl ?_
  refine xald 1 ⟨u268, _, rfl⟩ rfl rfl ?_
  refine xcst 2 (0) ⟨u268, _, rfl⟩ rfl (by decide) (fun z1 h1 => ?_)
  refine xputI 5 hH ⟨u268, _, rfl⟩ rfl rfl ⟨rfl, rfl⟩ (by omega) (by omega) (fun hp2 hH2 U2 => ?_)
  have s2 := U2.1
  have S2 := rfS_W (W := [(66, 7)]) hS (rU_fr U2 rfl) (fun _ => rfl) rfl rfl (fun _ => rfl) (fun _ => rfl)
  have P2 := P0_W (W := [(66, 7)]) (by decide) (rU_fr U2 rfl) hP
  refine xald 6 ⟨u268, _, rfl⟩ rfl rfl ?_
  refine xild 7 ⟨u268, _, rfl⟩ rfl rfl ?_
  refine xif_ge 10 ⟨u268, _, rfl⟩ rfl (fun c7 => ?_) (fun c7 => ?_)
  · refine xcst 15 (0) ⟨u268, _, rfl⟩ rfl (by decide) (fun z14 h14 => ?_)
    refine xcst 16 (1) ⟨u268, _, rfl⟩ rfl (by decide) (fun z15 h15 => ?_)
    refine xcall 19 [.ref 66, .int _, .int _] [] hH2 ⟨u268, _, rfl⟩ rfl rfl rfl rfl rfl (k_failsE hH2 (by omega) (fun hp16 hH16 V16 => ⟨_, rfl, ?_⟩))
    refine xif_eq 22 ⟨u268, _, rfl⟩ rfl (fun c19 => ?_) (fun c19 => ?_)
    · have hpe : hp2 = hp16 := by
        rcases V16 with ⟨q1, e⟩ | ⟨q1, -⟩
        · exact e.symm
        · omega
      subst hpe
      have g0 : gNg a.toInt = 0 := gNg_0.mpr (by omega)
      refine xild 25 ⟨u268, _, rfl⟩ rfl rfl ?_
      refine xist 26 ⟨u268, _, rfl⟩ rfl rfl ?_
      refine xcst 27 (0) ⟨u268, _, rfl⟩ rfl (by decide) (fun z26 h26 => ?_)
      refine xist 28 ⟨u268, _, rfl⟩ rfl rfl ?_
      refine xpad 1 ?_
      exact l268o (V := V) (T := T) hH16 (show rdOk hp2 V T from rowOk_rd S2.1) (x := a.toInt.toNat) (by omega) (fun z h => hR z hp2 hH16 P2 (rU_fr U2 (by decide)) (by rw [U2.1, g0]; exact h1) (Or.inr ⟨g0, S2, h⟩)) V 0 _ _ _ h26 (by omega) (by have : unL V T (15 * 0) = 0 := rfl; omega) (Nat.zero_le _)
    · rcases V16 with ⟨q1, -⟩ | ⟨q1, -⟩ <;> omega
  · refine xcst 11 (1) ⟨u268, _, rfl⟩ rfl (by decide) (fun z10 h10 => ?_)
    refine xgoto ⟨u268, _, rfl⟩ ?_
    refine xcst 16 (1) ⟨u268, _, rfl⟩ rfl (by decide) (fun z15 h15 => ?_)
    refine xcall 19 [.ref 66, .int _, .int _] [] hH2 ⟨u268, _, rfl⟩ rfl rfl rfl rfl rfl (k_failsE hH2 (by omega) (fun hp16 hH16 V16 => ⟨_, rfl, ?_⟩))
    refine xif_eq 22 ⟨u268, _, rfl⟩ rfl (fun c19 => ?_) (fun c19 => ?_)
    · rcases V16 with ⟨q1, -⟩ | ⟨q1, -⟩ <;> omega
    · refine xcst 23 (0) ⟨u268, _, rfl⟩ rfl (by decide) (fun z22 h22 => ?_)
      rcases V16 with ⟨q1, -⟩ | ⟨q1, U⟩
      · omega
      · have g1 := gNg_1 (show a.toInt < 0 by omega)
        exact xret ⟨u268, _, rfl⟩ rfl (hR _ hp16 hH16 (P0_W (W := [(66, 7)]) (by decide) (rU_fr U rfl) P2) ((rU_fr U2 (by decide)).trans (rU_fr U (by decide))) (by rw [U.1, g1]; omega) (Or.inl ⟨by rw [g1]; decide, rfS_W (W := [(66, 7)]) S2 (rU_fr U rfl) (fun _ => rfl) rfl rfl (fun _ => rfl) (fun _ => rfl)⟩))
theorem h353E {d : Nat} {hp : amH} {R : cQ} {x1 : Int32} {V n : Nat} {h : Nat → sR} {sv : Option sR} {T : sT} {ty : Nat → Int} (hI : lawI hp) (c : clS hp (V, T, ty) n h sv) (r : rfS hp (V, T, ty) n h sv)
    (hR : ∀ (z : Int32) hp1 mc ms, lawI hp1 → rfS hp1 (V, T, ty) n h sv → z.toInt = gNg x1.toInt → ((¬ gNg x1.toInt = 0 ∧ clS hp1 (V, T, ty) n h sv) ∨ (gNg x1.toInt = 0 ∧ clS hp1 (V, T, ty) n h sv ∧ rJ hp1 83 0 = ucV V T x1.toInt.toNat)) → mc ≤ 1 → ms ≤ 6 → R (.inl (some (.int z))) hp1 mc ms) : cK (d + 20) 353 [.ref 0, .int x1, .ref 83] hp R := by
  refine cin (M := am_m353) rfl rfl rfl ?_
  refine cald 1 ⟨u353J, _, rfl⟩ rfl rfl ?_
  refine ccst 2 (0) ⟨u353J, _, rfl⟩ rfl (by decide) (fun z1 h1 => ?_)
  refine cald 3 ⟨u353J, _, rfl⟩ rfl rfl ?_
  refine cild 4 ⟨u353J, _, rfl⟩ rfl rfl ?_
  refine ccall (kd := 0) (t := 1) [.ref 0, .int _] [.int _, .ref 83] hI.1 ⟨u353J, _, rfl⟩ (Or.inl ⟨_, rfl, rfl, by decide, by decide⟩) rfl rfl rfl ⟨rfl, rfl, rfl⟩ rfl (recv0 hI.1 _) rfl (qKE (Φ := fun z hp1 => bHk 84 bTT hp1 ∧ cF hp hp1 ∧ gNg x1.toInt = 0 ∧ clS hp1 (V, T, ty) n h sv ∧ z.toInt = ucV V T x1.toInt.toNat) (Ψ := fun E hp1 => lawI hp1 ∧ rfS hp1 (V, T, ty) n h sv ∧ clS hp1 (V, T, ty) n h sv ∧ ¬ gNg x1.toInt = 0 ∧ ((gNg x1.toInt = 1 ∧ E = 1))) (fun R g1 g2 => k_124E (d := d + 15) hI.1 c (fun E hp1 b1 b2 b3 e1 e2 => g2 E hp1 ⟨law_cl hI b1 b2, cF_rf b2 r, b3, e1, e2⟩) (fun z hp1 a1 a2 a3 a4 a5 => g1 z hp1 ⟨a1, a2, a3, a4, a5⟩)) (fun z hp1 φ => Or.inl ⟨_, rfl, ?_⟩) (fun E hp1 ψ => Or.inr ?_))
  · refine ci2lE 8 ⟨u353J, _, rfl⟩ rfl (fun w hw => ?_)
    refine clastE 9 φ.1 ⟨u353J, _, rfl⟩ rfl h1 (fun hp2 hH2 F2 J2 => ?_)
    refine cgoto ⟨u353J, _, rfl⟩ ?_
    refine ccst 16 (0) ⟨u353J, _, rfl⟩ rfl (by decide) (fun z9 h9 => ?_)
    exact cret ⟨u353J, _, rfl⟩ (Or.inl rfl) (hR _ _ _ _ (lawI_83 (law_cl hI φ.1 φ.2.1) hH2 F2) (rf_83 F2 (cF_rf φ.2.1 r)) (by rw [φ.2.2.1]; exact h9) (Or.inr ⟨φ.2.2.1, cl_83 F2 φ.2.2.2.1, by rw [J2, hw]; exact φ.2.2.2.2⟩) (by decide) (by decide))
  · obtain ⟨ψ0, ψr, ψc, ψ1, ψ2⟩ := ψ
    obtain ⟨ce, rfl⟩ := ψ2
    refine ⟨1, 12, 3, 13, rfl, rfl, rfl, rfl, ?_⟩
    refine ccst 14 (1) ⟨u353J, _, rfl⟩ rfl (by decide) (fun z9 h9 => ?_)
    exact cret ⟨u353J, _, rfl⟩ (Or.inl rfl) (hR _ _ _ _ ψ0 ψr (by rw [ce]; exact h9) (Or.inl ⟨ψ1, ψc⟩) (by decide) (by decide))
