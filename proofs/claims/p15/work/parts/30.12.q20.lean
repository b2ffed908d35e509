/-! ===== tightest on both sides ===== -/
/-- how many points fit a pair -/
def fitC (V : Nat) (T : sT) (a b : Nat) : Nat := sm (fun c => iv (c < V ∧ ¬ a = c ∧ ¬ b = c ∧ T a c = -1 ∧ T b c = -1)) 15
theorem fit_bc {V a b : Nat} {T : sT} (hV : V ≤ 15) (ha : a < V) (hb : b < V) : bcN (opN V T a &&& opN V T b) = ((fitC V T a b : Nat) : Int) := by
  rw [bc_pq (Nat.lt_of_le_of_lt Nat.and_le_left (op_lt V T a))]
  unfold fitC
  rw [pq_iv (P := fun c => c < V ∧ ¬ a = c ∧ ¬ b = c ∧ T a c = -1 ∧ T b c = -1) (fun i hi => by
    rw [Nat.testBit_and, op_test hV, op_test hV, Bool.and_eq_true, decide_eq_true_iff, decide_eq_true_iff]
    exact ⟨fun z => ⟨z.1.2.1, z.1.2.2.1, z.2.2.2.1, z.1.2.2.2, z.2.2.2.2⟩, fun z => ⟨⟨ha, z.1, z.2.1, z.2.2.2.1⟩, hb, z.1, z.2.2.1, z.2.2.2.2⟩⟩)]
theorem iv_sm_le {f : Nat → Nat} (h : ∀ i, f i ≤ 1) : ∀ n, sm f n ≤ n
  | 0 => Nat.le_refl _
  | n + 1 => by
    have h1 := iv_sm_le h n
    have h2 := h n
    show sm f n + f n ≤ n + 1
    omega
theorem fit_lt {V a b : Nat} {T : sT} (ha : a < 15) : fitC V T a b < 15 := by
  have e : fitC V T a b + sm (fun c => iv (¬ (c < V ∧ ¬ a = c ∧ ¬ b = c ∧ T a c = -1 ∧ T b c = -1))) 15 = 15 := by
    unfold fitC
    rw [← sm_add]
    have k : ∀ n, sm (fun i => iv (i < V ∧ ¬ a = i ∧ ¬ b = i ∧ T a i = -1 ∧ T b i = -1) + iv (¬ (i < V ∧ ¬ a = i ∧ ¬ b = i ∧ T a i = -1 ∧ T b i = -1))) n = n * 1 := fun n => by
      rw [← sm_const 1 n]
      refine sm_ext _ (fun i _ => ?_)
      by_cases g : i < V ∧ ¬ a = i ∧ ¬ b = i ∧ T a i = -1 ∧ T b i = -1
      · rw [iv_t g, iv_f (fun z => z g)]
      · rw [iv_f g, iv_t g]
    exact k 15
  have e2 : 1 ≤ sm (fun c => iv (¬ (c < V ∧ ¬ a = c ∧ ¬ b = c ∧ T a c = -1 ∧ T b c = -1))) 15 := by
    have s := sm_split (fun c => iv (¬ (c < V ∧ ¬ a = c ∧ ¬ b = c ∧ T a c = -1 ∧ T b c = -1))) (a + 1) (15 - (a + 1))
    rw [show a + 1 + (15 - (a + 1)) = 15 by omega] at s
    rw [s]
    have : sm (fun c => iv (¬ (c < V ∧ ¬ a = c ∧ ¬ b = c ∧ T a c = -1 ∧ T b c = -1))) (a + 1) = sm (fun c => iv (¬ (c < V ∧ ¬ a = c ∧ ¬ b = c ∧ T a c = -1 ∧ T b c = -1))) a + iv (¬ (a < V ∧ ¬ a = a ∧ ¬ b = a ∧ T a a = -1 ∧ T b a = -1)) := rfl
    rw [this, iv_t (p := ¬ (a < V ∧ ¬ a = a ∧ ¬ b = a ∧ T a a = -1 ∧ T b a = -1)) (fun z => z.2.1 rfl)]
    omega
  omega
/-- the tightest pair before a code, what fits it -/
def tgF (V : Nat) (T : sT) : Nat → Int × Int
  | 0 => (-1, 15)
  | n + 1 => if unB V T n = true ∧ ((fitC V T (n / 15) (n % 15) : Nat) : Int) < (tgF V T n).2 then (((16 * (n / 15) + n % 15 : Nat) : Int), ((fitC V T (n / 15) (n % 15) : Nat) : Int)) else tgF V T n
theorem tg_no {V : Nat} {T : sT} (n : Nat) : ∀ k, (∀ j, n ≤ j → j < n + k → ¬ unB V T j = true) → tgF V T (n + k) = tgF V T n
  | 0, _ => rfl
  | k + 1, h => by
    rw [← tg_no n k (fun j h1 h2 => h j h1 (by omega))]
    show (if _ then _ else _) = _
    rw [if_neg (fun z => h (n + k) (by omega) (by omega) z.1)]
theorem tg_s1 {V a b : Nat} {T : sT} (hb : b < 15) (h : a < b ∧ b < V ∧ T a b = -1) (h2 : ((fitC V T a b : Nat) : Int) < (tgF V T (15 * a + b)).2) : tgF V T (15 * a + (b + 1)) = (((16 * a + b : Nat) : Int), ((fitC V T a b : Nat) : Int)) := by
  show (if _ then _ else _) = _
  rw [show (15 * a + b) / 15 = a by omega, show (15 * a + b) % 15 = b by omega, if_pos ⟨(un_in hb).mpr h, h2⟩]
theorem tg_s0 {V a b : Nat} {T : sT} (hb : b < 15) (h : ¬ ((a < b ∧ b < V ∧ T a b = -1) ∧ ((fitC V T a b : Nat) : Int) < (tgF V T (15 * a + b)).2)) : tgF V T (15 * a + (b + 1)) = tgF V T (15 * a + b) := by
  show (if _ then _ else _) = _
  rw [show (15 * a + b) / 15 = a by omega, show (15 * a + b) % 15 = b by omega, if_neg (fun z => h ⟨(un_in hb).mp z.1, z.2⟩)]
theorem tg_row {V a b : Nat} {T : sT} (hV : V ≤ 15) (hb : V = b) : tgF V T (15 * (a + 1)) = tgF V T (15 * a + b) := by
  rw [← hb, show 15 * (a + 1) = 15 * a + V + (15 - V) by omega]
  exact tg_no _ _ (fun k k1 k2 => fun z => by
    have z := of_decide_eq_true z
    omega)
theorem tg_beg {V a : Nat} {T : sT} : tgF V T (15 * a + (a + 1)) = tgF V T (15 * a) :=
  tg_no _ _ (fun k k1 k2 => fun z => by
    have z := of_decide_eq_true z
    omega)
theorem tg_end {V a : Nat} {T : sT} (hV : V ≤ 15) (ha : V = a) : tgF V T 225 = tgF V T (15 * a) := by
  rw [← ha, show 225 = 15 * V + (225 - 15 * V) by omega]
  exact tg_no _ _ (fun k k1 k2 => fun z => by
    have z := of_decide_eq_true z
    omega)
/-- nothing found, or less than 15 -/
theorem tg_st {V : Nat} {T : sT} : ∀ n, n ≤ 225 → ((tgF V T n).1 = -1 ∧ (tgF V T n).2 = 15) ∨ (0 ≤ (tgF V T n).1 ∧ (tgF V T n).1 ≤ 240 ∧ 0 ≤ (tgF V T n).2 ∧ (tgF V T n).2 < 15)
  | 0, _ => Or.inl ⟨rfl, rfl⟩
  | n + 1, h => by
    show ((if _ then _ else _ : Int × Int).1 = -1 ∧ (if _ then _ else _ : Int × Int).2 = 15) ∨ (0 ≤ (if _ then _ else _ : Int × Int).1 ∧ (if _ then _ else _ : Int × Int).1 ≤ 240 ∧ 0 ≤ (if _ then _ else _ : Int × Int).2 ∧ (if _ then _ else _ : Int × Int).2 < 15)
    by_cases g : unB V T n = true ∧ ((fitC V T (n / 15) (n % 15) : Nat) : Int) < (tgF V T n).2
    · rw [if_pos g]
      have k := fit_lt (V := V) (a := n / 15) (b := n % 15) (T := T) (by omega)
      right
      dsimp only
      omega
    · rw [if_neg g]
      exact tg_st n (by omega)
theorem u25 : bUp 0 am_m25.1 = true := by decide +kernel
theorem l25i {d a V : Nat} {T : sT} {hp : amH} {R : xQ} {wa : Int32} {o : Nat} (ho : bo o) (hH : bHk 84 bTT hp) (hB : bdOk hp o V T) (ha : wa.toInt = (a : Int)) (aV : a < V)
    (hQ : ∀ (w1 w2 wb : Int32) (v5 : Option Value), (w1.toInt = (tgF V T (15 * (a + 1))).1 ∧ w2.toInt = (tgF V T (15 * (a + 1))).2) → xV (d + 2) am_m25 82 [some (.ref o), some (.int w1), some (.int w2), some (.int wa), some (.int wb), v5] [] hp R) :
    ∀ (jj b : Nat) (w1 w2 wb : Int32) (v5 : Option Value), wb.toInt = (b : Int) → a < b → b + jj = V → (w1.toInt = (tgF V T (15 * a + b)).1 ∧ w2.toInt = (tgF V T (15 * a + b)).2) → xV (d + 2) am_m25 20 [some (.ref o), some (.int w1), some (.int w2), some (.int wa), some (.int wb), v5] [] hp R := by
  have h15 : V ≤ 15 := hB.2.1.2.1
  have b0 := hB.1
  intro jj
  induction jj with
  | zero =>
    intro b w1 w2 wb v5 hb hab hj hw
    have e := tg_row (V := V) (a := a) (b := b) (T := T) h15 (by omega)
    refine xild2 22 ⟨u25, _, rfl⟩ rfl rfl ?_
    refine xald 23 ⟨u25, _, rfl⟩ rfl rfl ?_
    refine xgetC 26 hH ⟨u25, _, rfl⟩ rfl (bo_lt ho) (by decide) (bo_T ho) rfl (by decide) (fun z23 h23 => ?_)
    refine xcmp_ge 29 ⟨u25, _, rfl⟩ rfl (fun c26 => ?_) (fun c26 => ?_)
    · exact hQ _ _ _ _ (by rw [e]; exact hw)
    · omega
  | succ jj ih =>
    intro b w1 w2 wb v5 hb hab hj hw
    have st := tg_st (V := V) (T := T) (15 * a + b) (by omega)
    have s1 := tg_s1 (V := V) (a := a) (b := b) (T := T) (by omega)
    have s0 := tg_s0 (V := V) (a := a) (b := b) (T := T) (by omega)
    have fl := fit_lt (V := V) (a := a) (b := b) (T := T) (by omega)
    refine xild2 22 ⟨u25, _, rfl⟩ rfl rfl ?_
    refine xald 23 ⟨u25, _, rfl⟩ rfl rfl ?_
    refine xgetC 26 hH ⟨u25, _, rfl⟩ rfl (bo_lt ho) (by decide) (bo_T ho) rfl (by decide) (fun z23 h23 => ?_)
    refine xcmp_ge 29 ⟨u25, _, rfl⟩ rfl (fun c26 => ?_) (fun c26 => ?_)
    · omega
    · refine xald 30 ⟨u25, _, rfl⟩ rfl rfl ?_
      refine xild 31 ⟨u25, _, rfl⟩ rfl rfl ?_
      refine xcallC 34 (o := o) [.int _] [] hH ⟨u25, _, rfl⟩ rfl rfl (bo_lt ho) (bo_T ho) (by decide) rfl ⟨rfl, rfl, rfl, rfl⟩ rfl (k_opn (x := a) ho hH hB ha (fun z31 h31 => ⟨_, rfl, ?_⟩))
      refine xald 35 ⟨u25, _, rfl⟩ rfl rfl ?_
      refine xild2 37 ⟨u25, _, rfl⟩ rfl rfl ?_
      refine xcallC 40 (o := o) [.int _] [.int _] hH ⟨u25, _, rfl⟩ rfl rfl (bo_lt ho) (bo_T ho) (by decide) rfl ⟨rfl, rfl, rfl, rfl⟩ rfl (k_opn (x := b) ho hH hB hb (fun z37 h37 => ⟨_, rfl, ?_⟩))
      refine xand 41 ⟨u25, _, rfl⟩ rfl ?_
      refine xcallS 44 [.int _] [] hH ⟨u25, _, rfl⟩ rfl rfl rfl rfl rfl (k_bc (i_and h31 h37 (op_lt V T a)).1 (fun z41 h41 => ⟨_, rfl, ?_⟩))
      rw [fit_bc h15 aV (by omega)] at h41
      refine xist2 46 ⟨u25, _, rfl⟩ rfl rfl ?_
      refine xald 47 ⟨u25, _, rfl⟩ rfl rfl ?_
      refine xild 48 ⟨u25, _, rfl⟩ rfl rfl ?_
      refine xcallC 51 (o := o) [.int _] [] hH ⟨u25, _, rfl⟩ rfl rfl (bo_lt ho) (bo_T ho) (by decide) rfl ⟨rfl, rfl, rfl, rfl⟩ rfl (k_opn (x := a) ho hH hB ha (fun z48 h48 => ⟨_, rfl, ?_⟩))
      refine xild2 53 ⟨u25, _, rfl⟩ rfl rfl ?_
      refine xcallS 56 [.int _, .int _] [] hH ⟨u25, _, rfl⟩ rfl rfl rfl rfl rfl (k_has (m := opN V T a) (n := b) h48 (op_lt V T a) hb (by omega) (fun z53 h53 => ⟨_, rfl, ?_⟩))
      rw [op_test h15] at h53
      have h53 : (z53.toInt = 1 ∧ T a b = -1) ∨ (z53.toInt = 0 ∧ ¬ T a b = -1) := by
        by_cases q : T a b = -1
        · left; rw [h53, if_pos (decide_eq_true ⟨by omega, by omega, by omega, q⟩)]; exact ⟨rfl, q⟩
        · right; rw [h53, if_neg (fun z => q (of_decide_eq_true z).2.2.2)]; exact ⟨rfl, q⟩
      refine xif_eq 59 ⟨u25, _, rfl⟩ rfl (fun c56 => ?_) (fun c56 => ?_)
      · refine xinc 79 (1) ⟨u25, _, rfl⟩ rfl rfl rfl (by decide) (by omega) (by omega) (fun z76 h76 => ?_)
        refine xgoto ⟨u25, _, rfl⟩ ?_
        have s0 := s0 (by omega)
        exact ih (b + 1) _ _ _ _ (by omega) (by omega) (by omega) (by rw [s0]; exact hw)
      · refine xild2 61 ⟨u25, _, rfl⟩ rfl rfl ?_
        refine xild 62 ⟨u25, _, rfl⟩ rfl rfl ?_
        refine xcmp_ge 65 ⟨u25, _, rfl⟩ rfl (fun c62 => ?_) (fun c62 => ?_)
        · refine xinc 79 (1) ⟨u25, _, rfl⟩ rfl rfl rfl (by decide) (by omega) (by omega) (fun z76 h76 => ?_)
          refine xgoto ⟨u25, _, rfl⟩ ?_
          have s0 := s0 (by omega)
          exact ih (b + 1) _ _ _ _ (by omega) (by omega) (by omega) (by rw [s0]; exact hw)
        · refine xbip 67 (16) ⟨u25, _, rfl⟩ rfl (by decide) (fun z65 h65 => ?_)
          refine xild 68 ⟨u25, _, rfl⟩ rfl rfl ?_
          refine xmul 69 (16 * Int32.toInt wa) ⟨u25, _, rfl⟩ rfl (by rw [h65]) (by omega) (by omega) (fun z68 h68 => ?_)
          refine xild2 71 ⟨u25, _, rfl⟩ rfl rfl ?_
          refine xadd 72 _ ⟨u25, _, rfl⟩ rfl rfl (by omega) (by omega) (fun z71 h71 => ?_)
          refine xist 73 ⟨u25, _, rfl⟩ rfl rfl ?_
          refine xild2 75 ⟨u25, _, rfl⟩ rfl rfl ?_
          refine xist 76 ⟨u25, _, rfl⟩ rfl rfl ?_
          refine xinc 79 (1) ⟨u25, _, rfl⟩ rfl rfl rfl (by decide) (by omega) (by omega) (fun z76 h76 => ?_)
          refine xgoto ⟨u25, _, rfl⟩ ?_
          have s1 := s1 (by omega) (by omega)
          exact ih (b + 1) _ _ _ _ (by omega) (by omega) (by omega) (by rw [s1]; exact ⟨by show _ = ((16 * a + b : Nat) : Int); omega, by show _ = ((fitC V T a b : Nat) : Int); omega⟩)
theorem l25o {d V : Nat} {T : sT} {hp : amH} {R : xQ} {o : Nat} (ho : bo o) (hH : bHk 84 bTT hp) (hB : bdOk hp o V T)
    (hR : ∀ z : Int32, z.toInt = (tgF V T 225).1 → R (.inl (some (.int z))) hp) :
    ∀ (jj a : Nat) (w1 w2 wa : Int32) (v4 v5 : Option Value), wa.toInt = (a : Int) → a + jj = V → (w1.toInt = (tgF V T (15 * a)).1 ∧ w2.toInt = (tgF V T (15 * a)).2) → xV (d + 2) am_m25 7 [some (.ref o), some (.int w1), some (.int w2), some (.int wa), v4, v5] [] hp R := by
  have h15 : V ≤ 15 := hB.2.1.2.1
  have b0 := hB.1
  intro jj
  induction jj with
  | zero =>
    intro a w1 w2 wa v4 v5 ha hj hw
    have e := tg_end (V := V) (a := a) (T := T) h15 (by omega)
    refine xild 8 ⟨u25, _, rfl⟩ rfl rfl ?_
    refine xald 9 ⟨u25, _, rfl⟩ rfl rfl ?_
    refine xgetC 12 hH ⟨u25, _, rfl⟩ rfl (bo_lt ho) (by decide) (bo_T ho) rfl (by decide) (fun z9 h9 => ?_)
    refine xcmp_ge 15 ⟨u25, _, rfl⟩ rfl (fun c12 => ?_) (fun c12 => ?_)
    · refine xild 89 ⟨u25, _, rfl⟩ rfl rfl ?_
      exact xret ⟨u25, _, rfl⟩ rfl (hR _ (by rw [e]; exact hw.1))
    · omega
  | succ jj ih =>
    intro a w1 w2 wa v4 v5 ha hj hw
    have eb := tg_beg (V := V) (a := a) (T := T)
    refine xild 8 ⟨u25, _, rfl⟩ rfl rfl ?_
    refine xald 9 ⟨u25, _, rfl⟩ rfl rfl ?_
    refine xgetC 12 hH ⟨u25, _, rfl⟩ rfl (bo_lt ho) (by decide) (bo_T ho) rfl (by decide) (fun z9 h9 => ?_)
    refine xcmp_ge 15 ⟨u25, _, rfl⟩ rfl (fun c12 => ?_) (fun c12 => ?_)
    · omega
    · refine xild 16 ⟨u25, _, rfl⟩ rfl rfl ?_
      refine xcst 17 (1) ⟨u25, _, rfl⟩ rfl (by decide) (fun z16 h16 => ?_)
      refine xadd 18 _ ⟨u25, _, rfl⟩ rfl rfl (by omega) (by omega) (fun z17 h17 => ?_)
      refine xist2 20 ⟨u25, _, rfl⟩ rfl rfl ?_
      refine l25i ho hH hB ha (by omega) (fun x1 x2 xb x5 r1 => ?_) (V - (a + 1)) (a + 1) _ _ _ _ (by omega) (by omega) (by omega) (by rw [eb]; exact hw)
      refine xinc 85 (1) ⟨u25, _, rfl⟩ rfl rfl rfl (by decide) (by omega) (by omega) (fun z82 h82 => ?_)
      refine xgoto ⟨u25, _, rfl⟩ ?_
      exact ih (a + 1) _ _ _ _ _ (by omega) (by omega) r1
theorem k_25E {d o V : Nat} {T : sT} {hp : amH} {R : xQ} (ho : bo o) (hH : bHk 84 bTT hp) (hB : bdOk hp o V T)
    (hR : ∀ z : Int32, z.toInt = (tgF V T 225).1 → R (.inl (some (.int z))) hp) : xK (d + 2) 25 [.ref o] hp R := by
  refine xin (M := am_m25) rfl rfl (by unfold xAv; simp [amOk, bo_lt ho, Value.category]) ?_
  refine xcst 1 (-1) ⟨u25, _, rfl⟩ rfl (by decide) (fun z0 h0 => ?_)
  refine xist 2 ⟨u25, _, rfl⟩ rfl rfl ?_
  refine xbip 4 (15) ⟨u25, _, rfl⟩ rfl (by decide) (fun z2 h2 => ?_)
  refine xist 5 ⟨u25, _, rfl⟩ rfl rfl ?_
  refine xcst 6 (0) ⟨u25, _, rfl⟩ rfl (by decide) (fun z5 h5 => ?_)
  refine xist 7 ⟨u25, _, rfl⟩ rfl rfl ?_
  refine xpad 2 ?_
  exact l25o ho hH hB hR V 0 _ _ _ _ _ h5 (by omega) ⟨h0, h2⟩
theorem u131 : bUp 0 am_m131.1 = true := by decide +kernel
theorem k_131E {d V n : Nat} {h : Nat → sR} {sv : Option sR} {T : sT} {ty : Nat → Int} {hp : amH} {R : xQ} (hH : bHk 84 bTT hp) (hS : clS hp (V, T, ty) n h sv)
    (hR : ∀ (z : Int32) hp1, bHk 84 bTT hp1 → cF hp hp1 → clS hp1 (V, T, ty) n h sv → z.toInt = (tgF V T 225).1 → R (.inl (some (.int z))) hp1) : xK (d + 4) 131 [.ref 0] hp R := by
  have hB : bdOk hp 3 V T := hS.1
  have b0 : rN hp 3 0 = (V : Int) := hB.1
  have hL : lsN hp 3 T 225 := hS.2.1
  have b1 : rN hp 3 1 = (((trL T 225).length : Nat) : Int) := hL.1
  have hT0 : sOk V T := hB.2.1
  have h15 : V ≤ 15 := hT0.2.1
  have l35 : (trL T 225).length ≤ 35 := trL_35 hT0 225
  refine xin (M := am_m131) rfl rfl rfl ?_
  refine xald 1 ⟨u131, _, rfl⟩ rfl rfl ?_
  refine xgetD 4 (3) hH ⟨u131, _, rfl⟩ rfl (by decide) (by decide) rfl rfl (by decide) ?_
  refine xcallC 7 (o := 3) [] [] hH ⟨u131, _, rfl⟩ rfl rfl (by decide) rfl (by decide) rfl ⟨rfl, rfl, rfl, rfl⟩ rfl (k_25E (o := 3) (Or.inl rfl) hH hB (fun z4 h4 => ⟨_, rfl, ?_⟩))
  exact xret ⟨u131, _, rfl⟩ rfl (hR _ _ hH cF.refl hS h4)
theorem l282E {d V a b : Nat} {T : sT} {hp : amH} {R : xQ} {wa wb : Int32} (hH : bHk 84 bTT hp) (hB : rdOk hp V T) (ha : wa.toInt = (a : Int)) (hb : wb.toInt = (b : Int)) (aV : a < V) (bV : b < V) (hab : ¬ a = b) (hop : T a b = -1)
    (hR : ∀ z : Int32, z.toInt = ((fitC V T a b : Nat) : Int) → R (.inl (some (.int z))) hp) :
    ∀ (jj c : Nat) (w wc : Int32), wc.toInt = (c : Int) → c + jj = V → w.toInt = ((sm (fun c => iv (c < V ∧ ¬ a = c ∧ ¬ b = c ∧ T a c = -1 ∧ T b c = -1)) c : Nat) : Int) → xV (d + 4) am_m282 5 [some (.ref 66), some (.int wa), some (.int wb), some (.int w), some (.int wc)] [] hp R := by
  have h15 : V ≤ 15 := hB.2.1.2.1
  have b0 : rN hp 67 0 = (V : Int) := hB.1
  intro jj
  induction jj with
  | zero =>
    intro c w wc hc hj hw
    have e : fitC V T a b = sm (fun c => iv (c < V ∧ ¬ a = c ∧ ¬ b = c ∧ T a c = -1 ∧ T b c = -1)) V := sm_tail h15 (fun i h1 _ => iv_f (fun z => by omega))
    have ec : c = V := by omega
    rw [ec] at hw
    refine xild2 7 ⟨u282, _, rfl⟩ rfl rfl ?_
    refine xald 8 ⟨u282, _, rfl⟩ rfl rfl ?_
    refine xcall 11 [.ref 66] [.int _] hH ⟨u282, _, rfl⟩ rfl rfl rfl rfl rfl (k_points hH (fun z8 h8 => ⟨_, rfl, ?_⟩))
    refine xcmp_ge 14 ⟨u282, _, rfl⟩ rfl (fun c11 => ?_) (fun c11 => ?_)
    · refine xild 52 ⟨u282, _, rfl⟩ rfl rfl ?_
      exact xret ⟨u282, _, rfl⟩ rfl (hR _ (by rw [e]; exact hw))
    · omega
  | succ jj ih =>
    intro c w wc hc hj hw
    have k2 := iv_sm_le (f := fun c => iv (c < V ∧ ¬ a = c ∧ ¬ b = c ∧ T a c = -1 ∧ T b c = -1)) (fun i => iv_le) c
    refine xild2 7 ⟨u282, _, rfl⟩ rfl rfl ?_
    refine xald 8 ⟨u282, _, rfl⟩ rfl rfl ?_
    refine xcall 11 [.ref 66] [.int _] hH ⟨u282, _, rfl⟩ rfl rfl rfl rfl rfl (k_points hH (fun z8 h8 => ⟨_, rfl, ?_⟩))
    refine xcmp_ge 14 ⟨u282, _, rfl⟩ rfl (fun c11 => ?_) (fun c11 => ?_)
    · omega
    · refine xild 15 ⟨u282, _, rfl⟩ rfl rfl ?_
      refine xild2 17 ⟨u282, _, rfl⟩ rfl rfl ?_
      refine xild 18 ⟨u282, _, rfl⟩ rfl rfl ?_
      refine xcmp_eq 21 ⟨u282, _, rfl⟩ rfl (fun c18 => ?_) (fun c18 => ?_)
      · refine xcst 43 (0) ⟨u282, _, rfl⟩ rfl (by decide) (fun z42 h42 => ?_)
        refine xadd 44 _ ⟨u282, _, rfl⟩ rfl rfl (by omega) (by omega) (fun z43 h43 => ?_)
        refine xist 45 ⟨u282, _, rfl⟩ rfl rfl ?_
        refine xinc 48 (1) ⟨u282, _, rfl⟩ rfl rfl rfl (by decide) (by omega) (by omega) (fun z45 h45 => ?_)
        refine xgoto ⟨u282, _, rfl⟩ ?_
        exact ih (c + 1) _ _ (by omega) (by omega) (by show _ = ((sm (fun c => iv (c < V ∧ ¬ a = c ∧ ¬ b = c ∧ T a c = -1 ∧ T b c = -1)) c + iv (c < V ∧ ¬ a = c ∧ ¬ b = c ∧ T a c = -1 ∧ T b c = -1) : Nat) : Int); rw [iv_f (p := c < V ∧ ¬ a = c ∧ ¬ b = c ∧ T a c = -1 ∧ T b c = -1) (by omega)]; omega)
      · refine xild2 23 ⟨u282, _, rfl⟩ rfl rfl ?_
        refine xild 24 ⟨u282, _, rfl⟩ rfl rfl ?_
        refine xcmp_eq 27 ⟨u282, _, rfl⟩ rfl (fun c24 => ?_) (fun c24 => ?_)
        · refine xcst 43 (0) ⟨u282, _, rfl⟩ rfl (by decide) (fun z42 h42 => ?_)
          refine xadd 44 _ ⟨u282, _, rfl⟩ rfl rfl (by omega) (by omega) (fun z43 h43 => ?_)
          refine xist 45 ⟨u282, _, rfl⟩ rfl rfl ?_
          refine xinc 48 (1) ⟨u282, _, rfl⟩ rfl rfl rfl (by decide) (by omega) (by omega) (fun z45 h45 => ?_)
          refine xgoto ⟨u282, _, rfl⟩ ?_
          exact ih (c + 1) _ _ (by omega) (by omega) (by show _ = ((sm (fun c => iv (c < V ∧ ¬ a = c ∧ ¬ b = c ∧ T a c = -1 ∧ T b c = -1)) c + iv (c < V ∧ ¬ a = c ∧ ¬ b = c ∧ T a c = -1 ∧ T b c = -1) : Nat) : Int); rw [iv_f (p := c < V ∧ ¬ a = c ∧ ¬ b = c ∧ T a c = -1 ∧ T b c = -1) (by omega)]; omega)
        · refine xald 28 ⟨u282, _, rfl⟩ rfl rfl ?_
          refine xild 29 ⟨u282, _, rfl⟩ rfl rfl ?_
          refine xild 30 ⟨u282, _, rfl⟩ rfl rfl ?_
          refine xild2 32 ⟨u282, _, rfl⟩ rfl rfl ?_
          refine xcall 35 [.ref 66, .int _, .int _, .int _] [.int _] hH ⟨u282, _, rfl⟩ rfl rfl rfl rfl rfl (k_rfree hH hB (x := a) (y := b) (z := c) ha hb hc (by omega) (by omega) (by omega) (fun z32 h32 => ⟨_, rfl, ?_⟩))
          refine xif_eq 38 ⟨u282, _, rfl⟩ rfl (fun c35 => ?_) (fun c35 => ?_)
          · refine xcst 43 (0) ⟨u282, _, rfl⟩ rfl (by decide) (fun z42 h42 => ?_)
            refine xadd 44 _ ⟨u282, _, rfl⟩ rfl rfl (by omega) (by omega) (fun z43 h43 => ?_)
            refine xist 45 ⟨u282, _, rfl⟩ rfl rfl ?_
            refine xinc 48 (1) ⟨u282, _, rfl⟩ rfl rfl rfl (by decide) (by omega) (by omega) (fun z45 h45 => ?_)
            refine xgoto ⟨u282, _, rfl⟩ ?_
            exact ih (c + 1) _ _ (by omega) (by omega) (by show _ = ((sm (fun c => iv (c < V ∧ ¬ a = c ∧ ¬ b = c ∧ T a c = -1 ∧ T b c = -1)) c + iv (c < V ∧ ¬ a = c ∧ ¬ b = c ∧ T a c = -1 ∧ T b c = -1) : Nat) : Int); rw [iv_f (p := c < V ∧ ¬ a = c ∧ ¬ b = c ∧ T a c = -1 ∧ T b c = -1) (by unfold sFree at h32; omega)]; omega)
          · refine xcst 39 (1) ⟨u282, _, rfl⟩ rfl (by decide) (fun z38 h38 => ?_)
            refine xgoto ⟨u282, _, rfl⟩ ?_
            refine xadd 44 _ ⟨u282, _, rfl⟩ rfl rfl (by omega) (by omega) (fun z43 h43 => ?_)
            refine xist 45 ⟨u282, _, rfl⟩ rfl rfl ?_
            refine xinc 48 (1) ⟨u282, _, rfl⟩ rfl rfl rfl (by decide) (by omega) (by omega) (fun z45 h45 => ?_)
            refine xgoto ⟨u282, _, rfl⟩ ?_
            exact ih (c + 1) _ _ (by omega) (by omega) (by show _ = ((sm (fun c => iv (c < V ∧ ¬ a = c ∧ ¬ b = c ∧ T a c = -1 ∧ T b c = -1)) c + iv (c < V ∧ ¬ a = c ∧ ¬ b = c ∧ T a c = -1 ∧ T b c = -1) : Nat) : Int); rw [iv_t (p := c < V ∧ ¬ a = c ∧ ¬ b = c ∧ T a c = -1 ∧ T b c = -1) (by unfold sFree at h32; omega)]; omega)
theorem k_282E {d V a b : Nat} {T : sT} {hp : amH} {R : xQ} {wa wb : Int32} (hH : bHk 84 bTT hp) (hB : rdOk hp V T) (ha : wa.toInt = (a : Int)) (hb : wb.toInt = (b : Int)) (aV : a < V) (bV : b < V) (hab : ¬ a = b) (hop : T a b = -1)
    (hR : ∀ z : Int32, z.toInt = ((fitC V T a b : Nat) : Int) → R (.inl (some (.int z))) hp) : xK (d + 4) 282 [.ref 66, .int wa, .int wb] hp R := by
  refine xin (M := am_m282) rfl rfl rfl ?_
  refine xcst 1 (0) ⟨u282, _, rfl⟩ rfl (by decide) (fun z0 h0 => ?_)
  refine xist 2 ⟨u282, _, rfl⟩ rfl rfl ?_
  refine xcst 3 (0) ⟨u282, _, rfl⟩ rfl (by decide) (fun z2 h2 => ?_)
  refine xist2 5 ⟨u282, _, rfl⟩ rfl rfl ?_
  exact l282E hH hB ha hb aV bV hab hop hR V 0 _ _ h2 (by omega) h0
theorem l283i {d a V : Nat} {T : sT} {hp : amH} {R : xQ} {wa : Int32} (hH : bHk 84 bTT hp) (hB : rdOk hp V T) (ha : wa.toInt = (a : Int)) (aV : a < V)
    (hQ : ∀ (w1 w2 wb : Int32) (v5 : Option Value), ((w1.toInt = -1 ∧ (tgF V T (15 * (a + 1))).1 = -1) ∨ (0 ≤ w1.toInt ∧ w1.toInt = (tgF V T (15 * (a + 1))).1 ∧ w2.toInt = (tgF V T (15 * (a + 1))).2)) → xV (d + 5) am_m283 82 [some (.ref 66), some (.int w1), some (.int w2), some (.int wa), some (.int wb), v5] [] hp R) :
    ∀ (jj b : Nat) (w1 w2 wb : Int32) (v5 : Option Value), wb.toInt = (b : Int) → a < b → b + jj = V → ((w1.toInt = -1 ∧ (tgF V T (15 * a + b)).1 = -1) ∨ (0 ≤ w1.toInt ∧ w1.toInt = (tgF V T (15 * a + b)).1 ∧ w2.toInt = (tgF V T (15 * a + b)).2)) → xV (d + 5) am_m283 19 [some (.ref 66), some (.int w1), some (.int w2), some (.int wa), some (.int wb), v5] [] hp R := by
  have h15 : V ≤ 15 := hB.2.1.2.1
  have b0 : rN hp 67 0 = (V : Int) := hB.1
  intro jj
  induction jj with
  | zero =>
    intro b w1 w2 wb v5 hb hab hj hw
    have e := tg_row (V := V) (a := a) (b := b) (T := T) h15 (by omega)
    refine xild2 21 ⟨u283, _, rfl⟩ rfl rfl ?_
    refine xald 22 ⟨u283, _, rfl⟩ rfl rfl ?_
    refine xcall 25 [.ref 66] [.int _] hH ⟨u283, _, rfl⟩ rfl rfl rfl rfl rfl (k_points hH (fun z22 h22 => ⟨_, rfl, ?_⟩))
    refine xcmp_ge 28 ⟨u283, _, rfl⟩ rfl (fun c25 => ?_) (fun c25 => ?_)
    · exact hQ _ _ _ _ (by rw [e]; exact hw)
    · omega
  | succ jj ih =>
    intro b w1 w2 wb v5 hb hab hj hw
    have st := tg_st (V := V) (T := T) (15 * a + b) (by omega)
    have s1 := tg_s1 (V := V) (a := a) (b := b) (T := T) (by omega)
    have s0 := tg_s0 (V := V) (a := a) (b := b) (T := T) (by omega)
    have fl := fit_lt (V := V) (a := a) (b := b) (T := T) (by omega)
    refine xild2 21 ⟨u283, _, rfl⟩ rfl rfl ?_
    refine xald 22 ⟨u283, _, rfl⟩ rfl rfl ?_
    refine xcall 25 [.ref 66] [.int _] hH ⟨u283, _, rfl⟩ rfl rfl rfl rfl rfl (k_points hH (fun z22 h22 => ⟨_, rfl, ?_⟩))
    refine xcmp_ge 28 ⟨u283, _, rfl⟩ rfl (fun c25 => ?_) (fun c25 => ?_)
    · omega
    · refine xald 29 ⟨u283, _, rfl⟩ rfl rfl ?_
      refine xild 30 ⟨u283, _, rfl⟩ rfl rfl ?_
      refine xild2 32 ⟨u283, _, rfl⟩ rfl rfl ?_
      refine xcall 35 [.ref 66, .int _, .int _] [] hH ⟨u283, _, rfl⟩ rfl rfl rfl rfl rfl (k_third hH (by omega) (by omega) (by omega) (by omega) (fun z32 h32 => ⟨_, rfl, ?_⟩))
      have h32 : z32.toInt = T a b := by rw [h32, hB.2.2.1 _ _ (by omega) (by omega), show wa.toInt.toNat = a by omega, show wb.toInt.toNat = b by omega]
      refine xcst 36 (-1) ⟨u283, _, rfl⟩ rfl (by decide) (fun z35 h35 => ?_)
      refine xcmp_eq 39 ⟨u283, _, rfl⟩ rfl (fun c36 => ?_) (fun c36 => ?_)
      · refine xald 43 ⟨u283, _, rfl⟩ rfl rfl ?_
        refine xild 44 ⟨u283, _, rfl⟩ rfl rfl ?_
        refine xild2 46 ⟨u283, _, rfl⟩ rfl rfl ?_
        refine xcall 49 [.ref 66, .int _, .int _] [] hH ⟨u283, _, rfl⟩ rfl rfl rfl rfl rfl (k_282E hH hB ha hb aV (by omega) (by omega) (by omega) (fun z46 h46 => ⟨_, rfl, ?_⟩))
        refine xist2 51 ⟨u283, _, rfl⟩ rfl rfl ?_
        refine xild 52 ⟨u283, _, rfl⟩ rfl rfl ?_
        refine xcst 53 (-1) ⟨u283, _, rfl⟩ rfl (by decide) (fun z52 h52 => ?_)
        refine xcmp_eq 56 ⟨u283, _, rfl⟩ rfl (fun c53 => ?_) (fun c53 => ?_)
        · refine xbip 67 (16) ⟨u283, _, rfl⟩ rfl (by decide) (fun z65 h65 => ?_)
          refine xild 68 ⟨u283, _, rfl⟩ rfl rfl ?_
          refine xmul 69 (16 * Int32.toInt wa) ⟨u283, _, rfl⟩ rfl (by rw [h65]) (by omega) (by omega) (fun z68 h68 => ?_)
          refine xild2 71 ⟨u283, _, rfl⟩ rfl rfl ?_
          refine xadd 72 _ ⟨u283, _, rfl⟩ rfl rfl (by omega) (by omega) (fun z71 h71 => ?_)
          refine xist 73 ⟨u283, _, rfl⟩ rfl rfl ?_
          refine xild2 75 ⟨u283, _, rfl⟩ rfl rfl ?_
          refine xist 76 ⟨u283, _, rfl⟩ rfl rfl ?_
          refine xinc 79 (1) ⟨u283, _, rfl⟩ rfl rfl rfl (by decide) (by omega) (by omega) (fun z76 h76 => ?_)
          refine xgoto ⟨u283, _, rfl⟩ ?_
          have s1 := s1 (by omega) (by omega)
          exact ih (b + 1) _ _ _ _ (by omega) (by omega) (by omega) (by rw [s1]; exact Or.inr ⟨by omega, by show _ = ((16 * a + b : Nat) : Int); omega, by show _ = ((fitC V T a b : Nat) : Int); omega⟩)
        · refine xild2 58 ⟨u283, _, rfl⟩ rfl rfl ?_
          refine xild 59 ⟨u283, _, rfl⟩ rfl rfl ?_
          refine xcmp_lt 62 ⟨u283, _, rfl⟩ rfl (fun c59 => ?_) (fun c59 => ?_)
          · refine xbip 67 (16) ⟨u283, _, rfl⟩ rfl (by decide) (fun z65 h65 => ?_)
            refine xild 68 ⟨u283, _, rfl⟩ rfl rfl ?_
            refine xmul 69 (16 * Int32.toInt wa) ⟨u283, _, rfl⟩ rfl (by rw [h65]) (by omega) (by omega) (fun z68 h68 => ?_)
            refine xild2 71 ⟨u283, _, rfl⟩ rfl rfl ?_
            refine xadd 72 _ ⟨u283, _, rfl⟩ rfl rfl (by omega) (by omega) (fun z71 h71 => ?_)
            refine xist 73 ⟨u283, _, rfl⟩ rfl rfl ?_
            refine xild2 75 ⟨u283, _, rfl⟩ rfl rfl ?_
            refine xist 76 ⟨u283, _, rfl⟩ rfl rfl ?_
            refine xinc 79 (1) ⟨u283, _, rfl⟩ rfl rfl rfl (by decide) (by omega) (by omega) (fun z76 h76 => ?_)
            refine xgoto ⟨u283, _, rfl⟩ ?_
            have s1 := s1 (by omega) (by omega)
            exact ih (b + 1) _ _ _ _ (by omega) (by omega) (by omega) (by rw [s1]; exact Or.inr ⟨by omega, by show _ = ((16 * a + b : Nat) : Int); omega, by show _ = ((fitC V T a b : Nat) : Int); omega⟩)
          · refine xgoto ⟨u283, _, rfl⟩ ?_
            refine xinc 79 (1) ⟨u283, _, rfl⟩ rfl rfl rfl (by decide) (by omega) (by omega) (fun z76 h76 => ?_)
            refine xgoto ⟨u283, _, rfl⟩ ?_
            have s0 := s0 (by omega)
            exact ih (b + 1) _ _ _ _ (by omega) (by omega) (by omega) (by rw [s0]; exact hw)
      · refine xgoto ⟨u283, _, rfl⟩ ?_
        refine xinc 79 (1) ⟨u283, _, rfl⟩ rfl rfl rfl (by decide) (by omega) (by omega) (fun z76 h76 => ?_)
        refine xgoto ⟨u283, _, rfl⟩ ?_
        have s0 := s0 (by omega)
        exact ih (b + 1) _ _ _ _ (by omega) (by omega) (by omega) (by rw [s0]; exact hw)
theorem l283o {d V : Nat} {T : sT} {hp : amH} {R : xQ} (hH : bHk 84 bTT hp) (hB : rdOk hp V T)
    (hR : ∀ z : Int32, z.toInt = (tgF V T 225).1 → R (.inl (some (.int z))) hp) :
    ∀ (jj a : Nat) (w1 w2 wa : Int32) (v4 v5 : Option Value), wa.toInt = (a : Int) → a + jj = V → ((w1.toInt = -1 ∧ (tgF V T (15 * a)).1 = -1) ∨ (0 ≤ w1.toInt ∧ w1.toInt = (tgF V T (15 * a)).1 ∧ w2.toInt = (tgF V T (15 * a)).2)) → xV (d + 5) am_m283 6 [some (.ref 66), some (.int w1), some (.int w2), some (.int wa), v4, v5] [] hp R := by
  have h15 : V ≤ 15 := hB.2.1.2.1
  have b0 : rN hp 67 0 = (V : Int) := hB.1
  intro jj
  induction jj with
  | zero =>
    intro a w1 w2 wa v4 v5 ha hj hw
    have e := tg_end (V := V) (a := a) (T := T) h15 (by omega)
    refine xild 7 ⟨u283, _, rfl⟩ rfl rfl ?_
    refine xald 8 ⟨u283, _, rfl⟩ rfl rfl ?_
    refine xcall 11 [.ref 66] [.int _] hH ⟨u283, _, rfl⟩ rfl rfl rfl rfl rfl (k_points hH (fun z8 h8 => ⟨_, rfl, ?_⟩))
    refine xcmp_ge 14 ⟨u283, _, rfl⟩ rfl (fun c11 => ?_) (fun c11 => ?_)
    · refine xild 89 ⟨u283, _, rfl⟩ rfl rfl ?_
      exact xret ⟨u283, _, rfl⟩ rfl (hR _ (by rw [e]; omega))
    · omega
  | succ jj ih =>
    intro a w1 w2 wa v4 v5 ha hj hw
    have eb := tg_beg (V := V) (a := a) (T := T)
    refine xild 7 ⟨u283, _, rfl⟩ rfl rfl ?_
    refine xald 8 ⟨u283, _, rfl⟩ rfl rfl ?_
    refine xcall 11 [.ref 66] [.int _] hH ⟨u283, _, rfl⟩ rfl rfl rfl rfl rfl (k_points hH (fun z8 h8 => ⟨_, rfl, ?_⟩))
    refine xcmp_ge 14 ⟨u283, _, rfl⟩ rfl (fun c11 => ?_) (fun c11 => ?_)
    · omega
    · refine xild 15 ⟨u283, _, rfl⟩ rfl rfl ?_
      refine xcst 16 (1) ⟨u283, _, rfl⟩ rfl (by decide) (fun z15 h15 => ?_)
      refine xadd 17 _ ⟨u283, _, rfl⟩ rfl rfl (by omega) (by omega) (fun z16 h16 => ?_)
      refine xist2 19 ⟨u283, _, rfl⟩ rfl rfl ?_
      refine l283i hH hB ha (by omega) (fun x1 x2 xb x5 r1 => ?_) (V - (a + 1)) (a + 1) _ _ _ _ (by omega) (by omega) (by omega) (by rw [eb]; exact hw)
      refine xinc 85 (1) ⟨u283, _, rfl⟩ rfl rfl rfl (by decide) (by omega) (by omega) (fun z82 h82 => ?_)
      refine xgoto ⟨u283, _, rfl⟩ ?_
      exact ih (a + 1) _ _ _ _ _ (by omega) (by omega) r1
theorem k_283E {d V : Nat} {T : sT} {hp : amH} {R : xQ} (hH : bHk 84 bTT hp) (hB : rdOk hp V T)
    (hR : ∀ z : Int32, z.toInt = (tgF V T 225).1 → R (.inl (some (.int z))) hp) : xK (d + 5) 283 [.ref 66] hp R := by
  refine xin (M := am_m283) rfl rfl rfl ?_
  refine xcst 1 (-1) ⟨u283, _, rfl⟩ rfl (by decide) (fun z0 h0 => ?_)
  refine xist 2 ⟨u283, _, rfl⟩ rfl rfl ?_
  refine xcst 3 (0) ⟨u283, _, rfl⟩ rfl (by decide) (fun z2 h2 => ?_)
  refine xist 4 ⟨u283, _, rfl⟩ rfl rfl ?_
  refine xcst 5 (0) ⟨u283, _, rfl⟩ rfl (by decide) (fun z4 h4 => ?_)
  refine xist 6 ⟨u283, _, rfl⟩ rfl rfl ?_
  refine xpad 2 ?_
  exact l283o hH hB hR V 0 _ _ _ _ _ h4 (by omega) (Or.inl ⟨h0, rfl⟩)
theorem u286 : bUp 0 am_m286.1 = true := by decide +kernel
theorem k_286E {d V n : Nat} {h : Nat → sR} {sv : Option sR} {T : sT} {ty : Nat → Int} {hp : amH} {R : xQ} (hH : bHk 84 bTT hp) (hP : P0 hp) (hS : rfS hp (V, T, ty) n h sv)
    (hR : ∀ (z : Int32) hp1, bHk 84 bTT hp1 → P0 hp1 → bFr wM hp hp1 → rfS hp1 (V, T, ty) n h sv → z.toInt = (tgF V T 225).1 → R (.inl (some (.int z))) hp1) : xK (d + 6) 286 [.ref 66] hp R := by
  have hB : rdOk hp V T := rowOk_rd hS.1
  have b0 : rN hp 67 0 = (V : Int) := hB.1
  have hT0 : sOk V T := hB.2.1
  have h15 : V ≤ 15 := hT0.2.1
  have l35 : (trL T 225).length ≤ 35 := trL_35 hT0 225
  refine xin (M := am_m286) rfl rfl rfl ?_
  refine xald 1 ⟨u286, _, rfl⟩ rfl rfl ?_
  refine xcst 2 (0) ⟨u286, _, rfl⟩ rfl (by decide) (fun z1 h1 => ?_)
  refine xputI 5 hH ⟨u286, _, rfl⟩ rfl rfl ⟨rfl, rfl⟩ (by omega) (by omega) (fun hp2 hH2 U2 => ?_)
  have s2 := U2.1
  have S2 := rfS_W (W := [(66, 7)]) hS (rU_fr U2 rfl) (fun _ => rfl) rfl rfl (fun _ => rfl) (fun _ => rfl)
  have P2 := P0_W (W := [(66, 7)]) (by decide) (rU_fr U2 rfl) hP
  refine xald 6 ⟨u286, _, rfl⟩ rfl rfl ?_
  refine xcall 9 [.ref 66] [] hH2 ⟨u286, _, rfl⟩ rfl rfl rfl rfl rfl (k_283E hH2 (rowOk_rd S2.1) (fun z6 h6 => ⟨_, rfl, ?_⟩))
  exact xret ⟨u286, _, rfl⟩ rfl (hR _ _ hH2 P2 (rU_fr U2 (by decide)) S2 h6)
