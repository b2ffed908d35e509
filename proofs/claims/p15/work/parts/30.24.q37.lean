/-! ===== perfectPairs on both sides ===== -/
/-- a sum over pairs a < b < V, by 15 * a + b -/
def prT (V : Nat) (f : Nat → Nat → Nat) : Nat → Nat
  | 0 => 0
  | n + 1 => if n / 15 < n % 15 ∧ n % 15 < V then prT V f n + f (n / 15) (n % 15) else prT V f n
theorem prT_no {V : Nat} {f : Nat → Nat → Nat} (n : Nat) : ∀ k, (∀ j, n ≤ j → j < n + k → ¬ (j / 15 < j % 15 ∧ j % 15 < V)) → prT V f (n + k) = prT V f n
  | 0, _ => rfl
  | k + 1, h => by
    rw [← prT_no n k (fun j h1 h2 => h j h1 (by omega))]
    show (if _ then _ else _) = _
    rw [if_neg (h (n + k) (by omega) (by omega))]
theorem prT_s {V a b : Nat} {f : Nat → Nat → Nat} (hb : b < 15) (h : a < b ∧ b < V) : prT V f (15 * a + (b + 1)) = prT V f (15 * a + b) + f a b := by
  show (if _ then _ else _) = _
  rw [show (15 * a + b) / 15 = a by omega, show (15 * a + b) % 15 = b by omega, if_pos h]
theorem prT_row {V a b : Nat} {f : Nat → Nat → Nat} (hV : V ≤ 15) (hb : V = b) : prT V f (15 * (a + 1)) = prT V f (15 * a + b) := by
  rw [← hb, show 15 * (a + 1) = 15 * a + V + (15 - V) by omega]
  exact prT_no _ _ (fun k k1 k2 => fun z => by omega)
theorem prT_beg {V a : Nat} {f : Nat → Nat → Nat} : prT V f (15 * a + (a + 1)) = prT V f (15 * a) :=
  prT_no _ _ (fun k k1 k2 => fun z => by omega)
theorem prT_end {V a : Nat} {f : Nat → Nat → Nat} (hV : V ≤ 15) (ha : V = a) : prT V f 225 = prT V f (15 * a) := by
  rw [← ha, show 225 = 15 * V + (225 - 15 * V) by omega]
  exact prT_no _ _ (fun k k1 k2 => fun z => by omega)
theorem prT_le {V c : Nat} {f : Nat → Nat → Nat} (hf : ∀ a b, f a b ≤ c) : ∀ n, prT V f n ≤ c * n
  | 0 => Nat.zero_le _
  | n + 1 => by
    have h1 := prT_le (V := V) hf n
    have h2 := hf (n / 15) (n % 15)
    show (if _ then _ else _) ≤ _
    rw [Nat.mul_succ]
    split <;> omega
def pfB (V : Nat) (T : sT) (a b : Nat) : Bool := (List.range V).any (fun x => cyB T a b x && decide (cyL T a b x + 2 + iv (¬ T a b = -1) = V))
theorem pfB_t {V a b : Nat} {T : sT} : pfB V T a b = true ↔ ∃ x, x < V ∧ cyB T a b x = true ∧ cyL T a b x + 2 + iv (¬ T a b = -1) = V := by
  unfold pfB
  rw [List.any_eq_true]
  constructor
  · rintro ⟨x, h1, h2⟩
    obtain ⟨h3, h4⟩ := Bool.and_eq_true_iff.mp h2
    exact ⟨x, List.mem_range.mp h1, h3, of_decide_eq_true h4⟩
  · rintro ⟨x, h1, h2, h3⟩
    exact ⟨x, List.mem_range.mpr h1, Bool.and_eq_true_iff.mpr ⟨h2, decide_eq_true h3⟩⟩
def pfN (V : Nat) (T : sT) (a b : Nat) : Nat := iv (pfB V T a b = true)
def pfV (V : Nat) (T : sT) : Nat := if V < 7 then 0 else prT V (pfN V T) 225
theorem sm_ltP {f g : Nat → Nat} {n k : Nat} (h : ∀ i, i < n → f i ≤ g i) (hk : k < n) (h2 : f k < g k) : sm f n < sm g n := by
  have a : sm (fun i => f i + (if i = k then 1 else 0)) n = sm f n + sm (fun i => if i = k then 1 else 0) n := sm_add f (fun i => if i = k then 1 else 0) n
  have b : sm (fun i => if i = k then 1 else 0) n = 1 := sm_one hk (if_pos rfl) (fun i _ g => if_neg g)
  have c : sm (fun i => f i + (if i = k then 1 else 0)) n ≤ sm g n := sm_le n (fun i hi => by
    by_cases e : i = k
    · subst e; rw [if_pos rfl]; omega
    · rw [if_neg e]; have := h i hi; omega)
  omega
theorem sm_ltV : ∀ V : Fin 16, sm (fun u => iv (u < V.1)) 15 = V.1 := by decide +kernel
/-- a cycle through all other points is the only one -/
theorem pf_one {V a b x y : Nat} {T : sT} (hT : sOk V T) (aV : a < V) (bV : b < V) (hab : ¬ a = b) (hx : x < V) (hy : y < V) (cx : cyB T a b x = true) (cy : cyB T a b y = true) (e : cyL T a b x + 2 + iv (¬ T a b = -1) = V) : y = x := by
  have h15 := hT.2.1
  obtain ⟨x1, x2, x3, x4, x5⟩ := (cyB_s hT).mp cx
  obtain ⟨y1, y2, y3, y4, y5⟩ := (cyB_s hT).mp cy
  by_cases g : onC T a b x y
  · exact (cyB_one hT cx cy g (onC_x y4)).symm
  · exfalso
    have e1 := onC_sm hT hx x4
    have ec : sm (fun u => iv (T a b = (u : Int))) 15 = iv (¬ T a b = -1) := by
      by_cases k : T a b = -1
      · rw [iv_f (p := ¬ T a b = -1) (fun z => z k)]
        exact sm_none (fun u _ => iv_f (by omega))
      · obtain ⟨c, e0, -, -, k3, -⟩ := sOk_at hT rfl k
        rw [iv_t k]
        exact sm_one (k := c) (by omega) (iv_t e0) (fun u _ hne => iv_f (by omega))
    have s1 : sm (fun u => (iv (u = a) + iv (u = b)) + iv (T a b = (u : Int)) + sm (fun k => iv (wl T a b false k x = some u)) (cyL T a b x)) 15 < sm (fun u => iv (u < V)) 15 := by
      refine sm_ltP (k := y) (fun u hu => ?_) (by omega) ?_
      · have q := iv_onC (u := u) hT x4
        by_cases o : onC T a b x u
        · have lu := onC_lt hT hx o
          obtain ⟨k, k1, k2⟩ := id o
          have off := wl_offs hT k false _ u ⟨x1, x2, x3⟩ k2
          rw [iv_f off.1, iv_f off.2.1, iv_f off.2.2, iv_t lu]
          have := q.1
          omega
        · have z0 : sm (fun k => iv (wl T a b false k x = some u)) (cyL T a b x) = 0 := by
            rcases Nat.eq_zero_or_pos (sm (fun k => iv (wl T a b false k x = some u)) (cyL T a b x)) with z | z
            · exact z
            · exact absurd (q.2 z) o
          rw [z0]
          by_cases g1 : u = a
          · rw [iv_t g1, iv_f (p := u = b) (by omega), iv_f (p := T a b = (u : Int)) (fun z => by
              obtain ⟨c, e0, -, -, -, -, k5, -⟩ := sOk_at hT z (by omega)
              omega), iv_t (by omega)]
            exact Nat.le_refl _
          · by_cases g2 : u = b
            · rw [iv_f g1, iv_t g2, iv_f (p := T a b = (u : Int)) (fun z => by
                obtain ⟨c, e0, -, -, -, -, -, k6, -⟩ := sOk_at hT z (by omega)
                omega), iv_t (by omega)]
              exact Nat.le_refl _
            · rw [iv_f g1, iv_f g2]
              by_cases g3 : T a b = (u : Int)
              · obtain ⟨c, e0, -, -, k3, -⟩ := sOk_at hT g3 (by omega)
                rw [iv_t g3, iv_t (by omega)]
                exact Nat.le_refl _
              · rw [iv_f g3]
                exact Nat.zero_le _
      · have q := iv_onC (u := y) hT x4
        have z0 : sm (fun k => iv (wl T a b false k x = some y)) (cyL T a b x) = 0 := by
          rcases Nat.eq_zero_or_pos (sm (fun k => iv (wl T a b false k x = some y)) (cyL T a b x)) with z | z
          · exact z
          · exact absurd (q.2 z) g
        rw [z0, iv_f y1, iv_f y2, iv_f y3, iv_t hy]
        exact Nat.zero_lt_one
    have s2 : sm (fun u => iv (u < V)) 15 = V := sm_ltV ⟨V, by omega⟩
    rw [s2, sm_add, sm_add, sm_add, sm_eq1 (by omega), sm_eq1 (by omega), ec, e1] at s1
    omega
/-- the class's test -/
theorem pf_C {V a b : Nat} {T : sT} (hT : sOk V T) (aV : a < V) (bV : b < V) (hab : ¬ a = b) : pfB V T a b = true ↔ ((cyS T a b V).length = 1 ∧ cyL T a b ((cyS T a b V).getD 0 0) + 2 + iv (¬ T a b = -1) = V) := by
  rw [pfB_t]
  constructor
  · rintro ⟨x, hx, cx, e⟩
    obtain ⟨m1, m2⟩ := fL_at (B := cyB T a b) (n := x) (m := V) cx rfl hx
    have m1 : (fL (cyB T a b) x).length < (cyS T a b V).length := m1
    have all : ∀ i, i < (cyS T a b V).length → (cyS T a b V).getD i 0 = x := fun i hi => by
      obtain ⟨g1, g2⟩ := cyS_get hi
      exact pf_one hT aV bV hab hx g2 cx g1 e
    have l1 : (cyS T a b V).length = 1 := by
      apply Classical.byContradiction
      intro g
      have := cyS_inj (T := T) (a := a) (b := b) (n := V) (q := 0) (r := 1) (by omega) (by omega) ((all 0 (by omega)).trans (all 1 (by omega)).symm)
      omega
    exact ⟨l1, by rw [all 0 (by omega)]; exact e⟩
  · rintro ⟨l1, e⟩
    obtain ⟨g1, g2⟩ := cyS_get (T := T) (a := a) (b := b) (n := V) (q := 0) (by omega)
    exact ⟨_, g2, g1, e⟩
theorem u189 : bUp 0 am_m189.1 = true := by decide +kernel
theorem k_189E {d V a b : Nat} {T : sT} {hp : amH} {R : xQ} {wa wb : Int32} (hH : bHk 84 bTT hp) (hB : bdOk hp 3 V T) (hL : lsN hp 3 T 225) (ha : wa.toInt = (a : Int)) (hb : wb.toInt = (b : Int)) (aV : a < V) (bV : b < V) (hab : ¬ a = b)
    (hR : ∀ (z : Int32) hp1, bHk 84 bTT hp1 → bFx [52, 53, 54, 55] hp hp1 → z.toInt = ((pfN V T a b : Nat) : Int) → R (.inl (some (.int z))) hp1) : xK (d + 4) 189 [.ref 0, .int wa, .int wb] hp R := by
  have hT := hB.2.1
  have h15 := hT.2.1
  have b0 : rN hp 3 0 = (V : Int) := hB.1
  have iv1 : iv (¬ T a b = -1) ≤ 1 := iv_le
  obtain ⟨y1, y2, y3⟩ := cy_15 (T := T) (n := V) hT aV bV hab (Nat.le_refl V)
  refine xin (M := am_m189) rfl rfl rfl ?_
  refine xald 1 ⟨u189, _, rfl⟩ rfl rfl ?_
  refine xgetD 4 (3) hH ⟨u189, _, rfl⟩ rfl (by decide) (by decide) rfl rfl (by decide) ?_
  refine xgetC 7 hH ⟨u189, _, rfl⟩ rfl (by decide) (by decide) rfl rfl (by decide) (fun z4 h4 => ?_)
  refine xald 8 ⟨u189, _, rfl⟩ rfl rfl ?_
  refine xgetD 11 (3) hH ⟨u189, _, rfl⟩ rfl (by decide) (by decide) rfl rfl (by decide) ?_
  refine xild 12 ⟨u189, _, rfl⟩ rfl rfl ?_
  refine xild 13 ⟨u189, _, rfl⟩ rfl rfl ?_
  refine xcallC 16 (o := 3) [.int _, .int _] [.int _] hH ⟨u189, _, rfl⟩ rfl rfl (by decide) rfl (by decide) rfl ⟨rfl, rfl, rfl, rfl⟩ rfl (k_thd (o := 3) (Or.inl rfl) hH hB (fun z13 h13 => ⟨_, rfl, ?_⟩))
  rw [if_pos (by omega), show Int32.toInt wa = ((a : Nat) : Int) from ha, show Int32.toInt wb = ((b : Nat) : Int) from hb, Int.toNat_natCast, Int.toNat_natCast] at h13
  refine xcst 17 (-1) ⟨u189, _, rfl⟩ rfl (by decide) (fun z16 h16 => ?_)
  refine xcmp_ne 20 ⟨u189, _, rfl⟩ rfl (fun c17 => ?_) (fun c17 => ?_)
  · refine xcst 25 (3) ⟨u189, _, rfl⟩ rfl (by decide) (fun z24 h24 => ?_)
    refine xsub 26 _ ⟨u189, _, rfl⟩ rfl rfl (by omega) (by omega) (fun z25 h25 => ?_)
    have cv : z25.toInt + 2 + ((iv (¬ T a b = -1) : Nat) : Int) = (V : Int) := by
      rw [iv_t (p := ¬ T a b = -1) (by omega)]
      omega
    refine xist 27 ⟨u189, _, rfl⟩ rfl rfl ?_
    refine xald 28 ⟨u189, _, rfl⟩ rfl rfl ?_
    refine xgetD 31 (52) hH ⟨u189, _, rfl⟩ rfl (by decide) (by decide) rfl rfl (by decide) ?_
    refine xald 32 ⟨u189, _, rfl⟩ rfl rfl ?_
    refine xgetD 35 (3) hH ⟨u189, _, rfl⟩ rfl (by decide) (by decide) rfl rfl (by decide) ?_
    refine xild 36 ⟨u189, _, rfl⟩ rfl rfl ?_
    refine xild 37 ⟨u189, _, rfl⟩ rfl rfl ?_
    refine xcallC 40 (o := 52) [.ref 3, .int _, .int _] [] hH ⟨u189, _, rfl⟩ rfl rfl (by decide) rfl (by decide) rfl ⟨rfl, rfl, rfl, rfl⟩ rfl (k_gaC hH hB hL (a := a) (b := b) ha hb aV bV hab (fun hp37 hH37 F37 C37 => ⟨_, rfl, ?_⟩))
    obtain ⟨c1, -, -, c4, -⟩ := C37
    have pc := pf_C hT aV bV hab
    have f0 := c4 0 (Nat.zero_le _)
    refine xald 41 ⟨u189, _, rfl⟩ rfl rfl ?_
    refine xgetD 44 (52) hH37 ⟨u189, _, rfl⟩ rfl (by decide) (by decide) rfl rfl (by decide) ?_
    refine xgetC 47 hH37 ⟨u189, _, rfl⟩ rfl (by decide) (by decide) rfl rfl (by decide) (fun z44 h44 => ?_)
    refine xcst 48 (1) ⟨u189, _, rfl⟩ rfl (by decide) (fun z47 h47 => ?_)
    refine xcmp_ne 51 ⟨u189, _, rfl⟩ rfl (fun c48 => ?_) (fun c48 => ?_)
    · refine xcst 68 (0) ⟨u189, _, rfl⟩ rfl (by decide) (fun z67 h67 => ?_)
      exact xretB ⟨u189, _, rfl⟩ rfl (by omega) (hR _ _ hH37 F37 (by unfold pfN; rw [iv_f (fun w => by have := (pc.mp w).1; omega)]; exact h67))
    · refine xald 52 ⟨u189, _, rfl⟩ rfl rfl ?_
      refine xgetD 55 (52) hH37 ⟨u189, _, rfl⟩ rfl (by decide) (by decide) rfl rfl (by decide) ?_
      refine xcst 56 (0) ⟨u189, _, rfl⟩ rfl (by decide) (fun z55 h55 => ?_)
      have l1 : (cyS T a b V).length = 1 := by omega
      have f1 : rN hp37 53 (0 + 1) = ((offs T a b (cyS T a b V) 1 : Nat) : Int) := c4 1 (by omega)
      have os : offs T a b (cyS T a b V) 1 = offs T a b (cyS T a b V) 0 + cyL T a b ((cyS T a b V).getD 0 0) := offs_s
      refine xcallC 59 (o := 52) [.int _] [] hH37 ⟨u189, _, rfl⟩ rfl rfl (by decide) rfl (by decide) rfl ⟨rfl, rfl, rfl, rfl⟩ rfl (k_lngC hH37 (n := 0) (by omega) (by omega) (by omega) (by rw [f0, f1, os]; exact (by omega)) (by rw [f1]; have := y3 1 (by omega); omega) (fun z56 h56 => ⟨_, rfl, ?_⟩))
      rw [f1, f0, os] at h56
      refine xild 60 ⟨u189, _, rfl⟩ rfl rfl ?_
      refine xcmp_ne 63 ⟨u189, _, rfl⟩ rfl (fun c60 => ?_) (fun c60 => ?_)
      · refine xcst 68 (0) ⟨u189, _, rfl⟩ rfl (by decide) (fun z67 h67 => ?_)
        exact xretB ⟨u189, _, rfl⟩ rfl (by omega) (hR _ _ hH37 F37 (by unfold pfN; rw [iv_f (fun w => by have := (pc.mp w).2; omega)]; exact h67))
      · refine xcst 64 (1) ⟨u189, _, rfl⟩ rfl (by decide) (fun z63 h63 => ?_)
        refine xgoto ⟨u189, _, rfl⟩ ?_
        exact xretB ⟨u189, _, rfl⟩ rfl (by omega) (hR _ _ hH37 F37 (by unfold pfN; rw [iv_t (pc.mpr ⟨l1, by omega⟩)]; exact h63))
  · refine xcst 21 (2) ⟨u189, _, rfl⟩ rfl (by decide) (fun z20 h20 => ?_)
    refine xgoto ⟨u189, _, rfl⟩ ?_
    refine xsub 26 _ ⟨u189, _, rfl⟩ rfl rfl (by omega) (by omega) (fun z25 h25 => ?_)
    have cv : z25.toInt + 2 + ((iv (¬ T a b = -1) : Nat) : Int) = (V : Int) := by
      rw [iv_f (p := ¬ T a b = -1) (by omega)]
      omega
    refine xist 27 ⟨u189, _, rfl⟩ rfl rfl ?_
    refine xald 28 ⟨u189, _, rfl⟩ rfl rfl ?_
    refine xgetD 31 (52) hH ⟨u189, _, rfl⟩ rfl (by decide) (by decide) rfl rfl (by decide) ?_
    refine xald 32 ⟨u189, _, rfl⟩ rfl rfl ?_
    refine xgetD 35 (3) hH ⟨u189, _, rfl⟩ rfl (by decide) (by decide) rfl rfl (by decide) ?_
    refine xild 36 ⟨u189, _, rfl⟩ rfl rfl ?_
    refine xild 37 ⟨u189, _, rfl⟩ rfl rfl ?_
    refine xcallC 40 (o := 52) [.ref 3, .int _, .int _] [] hH ⟨u189, _, rfl⟩ rfl rfl (by decide) rfl (by decide) rfl ⟨rfl, rfl, rfl, rfl⟩ rfl (k_gaC hH hB hL (a := a) (b := b) ha hb aV bV hab (fun hp37 hH37 F37 C37 => ⟨_, rfl, ?_⟩))
    obtain ⟨c1, -, -, c4, -⟩ := C37
    have pc := pf_C hT aV bV hab
    have f0 := c4 0 (Nat.zero_le _)
    refine xald 41 ⟨u189, _, rfl⟩ rfl rfl ?_
    refine xgetD 44 (52) hH37 ⟨u189, _, rfl⟩ rfl (by decide) (by decide) rfl rfl (by decide) ?_
    refine xgetC 47 hH37 ⟨u189, _, rfl⟩ rfl (by decide) (by decide) rfl rfl (by decide) (fun z44 h44 => ?_)
    refine xcst 48 (1) ⟨u189, _, rfl⟩ rfl (by decide) (fun z47 h47 => ?_)
    refine xcmp_ne 51 ⟨u189, _, rfl⟩ rfl (fun c48 => ?_) (fun c48 => ?_)
    · refine xcst 68 (0) ⟨u189, _, rfl⟩ rfl (by decide) (fun z67 h67 => ?_)
      exact xretB ⟨u189, _, rfl⟩ rfl (by omega) (hR _ _ hH37 F37 (by unfold pfN; rw [iv_f (fun w => by have := (pc.mp w).1; omega)]; exact h67))
    · refine xald 52 ⟨u189, _, rfl⟩ rfl rfl ?_
      refine xgetD 55 (52) hH37 ⟨u189, _, rfl⟩ rfl (by decide) (by decide) rfl rfl (by decide) ?_
      refine xcst 56 (0) ⟨u189, _, rfl⟩ rfl (by decide) (fun z55 h55 => ?_)
      have l1 : (cyS T a b V).length = 1 := by omega
      have f1 : rN hp37 53 (0 + 1) = ((offs T a b (cyS T a b V) 1 : Nat) : Int) := c4 1 (by omega)
      have os : offs T a b (cyS T a b V) 1 = offs T a b (cyS T a b V) 0 + cyL T a b ((cyS T a b V).getD 0 0) := offs_s
      refine xcallC 59 (o := 52) [.int _] [] hH37 ⟨u189, _, rfl⟩ rfl rfl (by decide) rfl (by decide) rfl ⟨rfl, rfl, rfl, rfl⟩ rfl (k_lngC hH37 (n := 0) (by omega) (by omega) (by omega) (by rw [f0, f1, os]; exact (by omega)) (by rw [f1]; have := y3 1 (by omega); omega) (fun z56 h56 => ⟨_, rfl, ?_⟩))
      rw [f1, f0, os] at h56
      refine xild 60 ⟨u189, _, rfl⟩ rfl rfl ?_
      refine xcmp_ne 63 ⟨u189, _, rfl⟩ rfl (fun c60 => ?_) (fun c60 => ?_)
      · refine xcst 68 (0) ⟨u189, _, rfl⟩ rfl (by decide) (fun z67 h67 => ?_)
        exact xretB ⟨u189, _, rfl⟩ rfl (by omega) (hR _ _ hH37 F37 (by unfold pfN; rw [iv_f (fun w => by have := (pc.mp w).2; omega)]; exact h67))
      · refine xcst 64 (1) ⟨u189, _, rfl⟩ rfl (by decide) (fun z63 h63 => ?_)
        refine xgoto ⟨u189, _, rfl⟩ ?_
        exact xretB ⟨u189, _, rfl⟩ rfl (by omega) (hR _ _ hH37 F37 (by unfold pfN; rw [iv_t (pc.mpr ⟨l1, by omega⟩)]; exact h63))
theorem u148 : bUp 0 am_m148.1 = true := by decide +kernel
theorem pfN_1 {V : Nat} {T : sT} : ∀ a b, pfN V T a b ≤ 1 := fun _ _ => iv_le
theorem l148i {d a V : Nat} {T : sT} {hp0 : amH} {R : xQ} {wa : Int32} (hB0 : bdOk hp0 3 V T) (hL0 : lsN hp0 3 T 225) (ha : wa.toInt = (a : Int)) (aV : a < V)
    (hQ : ∀ (w wb : Int32) (hp : amH), bHk 84 bTT hp → bFx [52, 53, 54, 55] hp0 hp → w.toInt = ((prT V (pfN V T) (15 * (a + 1)) : Nat) : Int) → xV (d + 5) am_m148 62 [some (.ref 0), some (.int w), some (.int wa), some (.int wb)] [] hp R) :
    ∀ (jj b : Nat) (w wb : Int32) (hp : amH), bHk 84 bTT hp → bFx [52, 53, 54, 55] hp0 hp → wb.toInt = (b : Int) → a < b → b + jj = V → w.toInt = ((prT V (pfN V T) (15 * a + b) : Nat) : Int) → xV (d + 5) am_m148 33 [some (.ref 0), some (.int w), some (.int wa), some (.int wb)] [] hp R := by
  intro jj
  induction jj with
  | zero =>
    intro b w wb hp hH hF hb hab hj hw
    have hB : bdOk hp 3 V T := bdOk_fr hB0 (bFx_n hF (by simp)) (fun i => bFx_n hF (by simp)) (fun i => bFx_n hF (by simp))
    have hL : lsN hp 3 T 225 := lsN_fr hL0 (bFx_n hF (by simp)) (fun i => bFx_n hF (by simp)) (fun i => bFx_n hF (by simp))
    have h15 : V ≤ 15 := hB.2.1.2.1
    have b0 : rN hp 3 0 = (V : Int) := hB.1
    have e := prT_row (V := V) (a := a) (b := b) (f := pfN V T) h15 (by omega)
    refine xild 34 ⟨u148, _, rfl⟩ rfl rfl ?_
    refine xald 35 ⟨u148, _, rfl⟩ rfl rfl ?_
    refine xgetD 38 (3) hH ⟨u148, _, rfl⟩ rfl (by decide) (by decide) rfl rfl (by decide) ?_
    refine xgetC 41 hH ⟨u148, _, rfl⟩ rfl (by decide) (by decide) rfl rfl (by decide) (fun z38 h38 => ?_)
    refine xcmp_ge 44 ⟨u148, _, rfl⟩ rfl (fun c41 => ?_) (fun c41 => ?_)
    · exact hQ _ _ _ hH hF (by rw [e]; exact hw)
    · omega
  | succ jj ih =>
    intro b w wb hp hH hF hb hab hj hw
    have hB : bdOk hp 3 V T := bdOk_fr hB0 (bFx_n hF (by simp)) (fun i => bFx_n hF (by simp)) (fun i => bFx_n hF (by simp))
    have hL : lsN hp 3 T 225 := lsN_fr hL0 (bFx_n hF (by simp)) (fun i => bFx_n hF (by simp)) (fun i => bFx_n hF (by simp))
    have h15 : V ≤ 15 := hB.2.1.2.1
    have b0 : rN hp 3 0 = (V : Int) := hB.1
    have s1 := prT_s (V := V) (a := a) (b := b) (f := pfN V T) (by omega) ⟨hab, by omega⟩
    have le1 := prT_le (V := V) (c := 1) pfN_1 (15 * a + b)
    have le2 := pfN_1 (V := V) (T := T) a b
    refine xild 34 ⟨u148, _, rfl⟩ rfl rfl ?_
    refine xald 35 ⟨u148, _, rfl⟩ rfl rfl ?_
    refine xgetD 38 (3) hH ⟨u148, _, rfl⟩ rfl (by decide) (by decide) rfl rfl (by decide) ?_
    refine xgetC 41 hH ⟨u148, _, rfl⟩ rfl (by decide) (by decide) rfl rfl (by decide) (fun z38 h38 => ?_)
    refine xcmp_ge 44 ⟨u148, _, rfl⟩ rfl (fun c41 => ?_) (fun c41 => ?_)
    · omega
    · refine xald 45 ⟨u148, _, rfl⟩ rfl rfl ?_
      refine xild 46 ⟨u148, _, rfl⟩ rfl rfl ?_
      refine xild 47 ⟨u148, _, rfl⟩ rfl rfl ?_
      refine xcallC 50 (o := 0) [.int _, .int _] [] hH ⟨u148, _, rfl⟩ rfl rfl (by decide) rfl (by decide) rfl ⟨rfl, rfl, rfl, rfl⟩ rfl (k_189E hH hB hL (a := a) (b := b) ha hb aV (by omega) (by omega) (fun z47 hp47 hH47 F47 h47 => ⟨_, rfl, ?_⟩))
      refine xif_eq 53 ⟨u148, _, rfl⟩ rfl (fun c50 => ?_) (fun c50 => ?_)
      · refine xinc 59 (1) ⟨u148, _, rfl⟩ rfl rfl rfl (by decide) (by omega) (by omega) (fun z56 h56 => ?_)
        refine xgoto ⟨u148, _, rfl⟩ ?_
        exact ih (b + 1) _ _ hp47 hH47 (hF.trans F47) (by omega) (by omega) (by omega) (by rw [s1]; omega)
      · refine xinc 56 (1) ⟨u148, _, rfl⟩ rfl rfl rfl (by decide) (by omega) (by omega) (fun z53 h53 => ?_)
        refine xinc 59 (1) ⟨u148, _, rfl⟩ rfl rfl rfl (by decide) (by omega) (by omega) (fun z56 h56 => ?_)
        refine xgoto ⟨u148, _, rfl⟩ ?_
        exact ih (b + 1) _ _ hp47 hH47 (hF.trans F47) (by omega) (by omega) (by omega) (by rw [s1]; omega)
theorem l148o {d V : Nat} {T : sT} {hp0 : amH} {R : xQ} (hB0 : bdOk hp0 3 V T) (hL0 : lsN hp0 3 T 225)
    (hR : ∀ (z : Int32) (hp : amH), bHk 84 bTT hp → bFx [52, 53, 54, 55] hp0 hp → z.toInt = ((prT V (pfN V T) 225 : Nat) : Int) → R (.inl (some (.int z))) hp) :
    ∀ (jj a : Nat) (w wa : Int32) (v3 : Option Value) (hp : amH), bHk 84 bTT hp → bFx [52, 53, 54, 55] hp0 hp → wa.toInt = (a : Int) → a + jj = V → w.toInt = ((prT V (pfN V T) (15 * a) : Nat) : Int) → xV (d + 5) am_m148 18 [some (.ref 0), some (.int w), some (.int wa), v3] [] hp R := by
  intro jj
  induction jj with
  | zero =>
    intro a w wa v3 hp hH hF ha hj hw
    have hB : bdOk hp 3 V T := bdOk_fr hB0 (bFx_n hF (by simp)) (fun i => bFx_n hF (by simp)) (fun i => bFx_n hF (by simp))
    have hL : lsN hp 3 T 225 := lsN_fr hL0 (bFx_n hF (by simp)) (fun i => bFx_n hF (by simp)) (fun i => bFx_n hF (by simp))
    have h15 : V ≤ 15 := hB.2.1.2.1
    have b0 : rN hp 3 0 = (V : Int) := hB.1
    have e := prT_end (V := V) (a := a) (f := pfN V T) h15 (by omega)
    refine xild 19 ⟨u148, _, rfl⟩ rfl rfl ?_
    refine xald 20 ⟨u148, _, rfl⟩ rfl rfl ?_
    refine xgetD 23 (3) hH ⟨u148, _, rfl⟩ rfl (by decide) (by decide) rfl rfl (by decide) ?_
    refine xgetC 26 hH ⟨u148, _, rfl⟩ rfl (by decide) (by decide) rfl rfl (by decide) (fun z23 h23 => ?_)
    refine xcmp_ge 29 ⟨u148, _, rfl⟩ rfl (fun c26 => ?_) (fun c26 => ?_)
    · refine xild 69 ⟨u148, _, rfl⟩ rfl rfl ?_
      exact xret ⟨u148, _, rfl⟩ rfl (hR _ _ hH hF (by rw [e]; exact hw))
    · omega
  | succ jj ih =>
    intro a w wa v3 hp hH hF ha hj hw
    have hB : bdOk hp 3 V T := bdOk_fr hB0 (bFx_n hF (by simp)) (fun i => bFx_n hF (by simp)) (fun i => bFx_n hF (by simp))
    have hL : lsN hp 3 T 225 := lsN_fr hL0 (bFx_n hF (by simp)) (fun i => bFx_n hF (by simp)) (fun i => bFx_n hF (by simp))
    have h15 : V ≤ 15 := hB.2.1.2.1
    have b0 : rN hp 3 0 = (V : Int) := hB.1
    have eb := prT_beg (V := V) (a := a) (f := pfN V T)
    refine xild 19 ⟨u148, _, rfl⟩ rfl rfl ?_
    refine xald 20 ⟨u148, _, rfl⟩ rfl rfl ?_
    refine xgetD 23 (3) hH ⟨u148, _, rfl⟩ rfl (by decide) (by decide) rfl rfl (by decide) ?_
    refine xgetC 26 hH ⟨u148, _, rfl⟩ rfl (by decide) (by decide) rfl rfl (by decide) (fun z23 h23 => ?_)
    refine xcmp_ge 29 ⟨u148, _, rfl⟩ rfl (fun c26 => ?_) (fun c26 => ?_)
    · omega
    · refine xild 30 ⟨u148, _, rfl⟩ rfl rfl ?_
      refine xcst 31 (1) ⟨u148, _, rfl⟩ rfl (by decide) (fun z30 h30 => ?_)
      refine xadd 32 _ ⟨u148, _, rfl⟩ rfl rfl (by omega) (by omega) (fun z31 h31 => ?_)
      refine xist 33 ⟨u148, _, rfl⟩ rfl rfl ?_
      refine l148i hB0 hL0 ha (by omega) (fun x1 xb hp9 g0 g1 r1 => ?_) (V - (a + 1)) (a + 1) _ _ _ hH hF (by omega) (by omega) (by omega) (by rw [eb]; exact hw)
      refine xinc 65 (1) ⟨u148, _, rfl⟩ rfl rfl rfl (by decide) (by omega) (by omega) (fun z62 h62 => ?_)
      refine xgoto ⟨u148, _, rfl⟩ ?_
      exact ih (a + 1) _ _ _ _ g0 g1 (by omega) (by omega) r1
theorem k_148E {d V n : Nat} {h : Nat → sR} {sv : Option sR} {T : sT} {ty : Nat → Int} {hp : amH} {R : xQ} (hH : bHk 84 bTT hp) (hS : clS hp (V, T, ty) n h sv)
    (hR : ∀ (z : Int32) hp1, bHk 84 bTT hp1 → cF hp hp1 → clS hp1 (V, T, ty) n h sv → z.toInt = ((pfV V T : Nat) : Int) → R (.inl (some (.int z))) hp1) : xK (d + 6) 148 [.ref 0] hp R := by
  have hB : bdOk hp 3 V T := hS.1
  have b0 : rN hp 3 0 = (V : Int) := hB.1
  have hL : lsN hp 3 T 225 := hS.2.1
  have b1 : rN hp 3 1 = (((trL T 225).length : Nat) : Int) := hL.1
  have hT0 : sOk V T := hB.2.1
  have h15 : V ≤ 15 := hT0.2.1
  have l35 : (trL T 225).length ≤ 35 := trL_35 hT0 225
  refine xin (M := am_m148) rfl rfl rfl ?_
  refine xald 1 ⟨u148, _, rfl⟩ rfl rfl ?_
  refine xgetD 4 (3) hH ⟨u148, _, rfl⟩ rfl (by decide) (by decide) rfl rfl (by decide) ?_
  refine xgetC 7 hH ⟨u148, _, rfl⟩ rfl (by decide) (by decide) rfl rfl (by decide) (fun z4 h4 => ?_)
  refine xbip 9 (7) ⟨u148, _, rfl⟩ rfl (by decide) (fun z7 h7 => ?_)
  refine xcmp_ge 12 ⟨u148, _, rfl⟩ rfl (fun c9 => ?_) (fun c9 => ?_)
  · refine xcst 15 (0) ⟨u148, _, rfl⟩ rfl (by decide) (fun z14 h14 => ?_)
    refine xist 16 ⟨u148, _, rfl⟩ rfl rfl ?_
    refine xcst 17 (0) ⟨u148, _, rfl⟩ rfl (by decide) (fun z16 h16 => ?_)
    refine xist 18 ⟨u148, _, rfl⟩ rfl rfl ?_
    refine xpad 1 ?_
    exact l148o hB hL (fun z hp1 g1 g2 g3 => hR z hp1 g1 (cF_x g2 (by simp)) (clS_8 hS (fun c k hc => g2 c k (by simp; omega))) (by unfold pfV; rw [if_neg (by omega)]; exact g3)) V 0 _ _ _ hp hH bFx.refl h16 (by omega) h14
  · refine xcst 13 (0) ⟨u148, _, rfl⟩ rfl (by decide) (fun z12 h12 => ?_)
    exact xret ⟨u148, _, rfl⟩ rfl (hR _ _ hH cF.refl hS (by unfold pfV; rw [if_pos (by omega)]; exact h12))
theorem u305 : bUp 0 am_m305.1 = true := by decide +kernel
theorem l305E {d a b V : Nat} {T : sT} {hp0 : amH} {R : xQ} {wa wb wo : Int32} (hB0 : rdOk hp0 V T) (ha : wa.toInt = (a : Int)) (hb : wb.toInt = (b : Int)) (aV : a < V) (bV : b < V) (hab : ¬ a = b) (ho : wo.toInt + 2 + ((iv (¬ T a b = -1) : Nat) : Int) = (V : Int))
    (hR : ∀ (z : Int32) (hp : amH), bHk 84 bTT hp → bFr wWkE hp0 hp → z.toInt = ((pfN V T a b : Nat) : Int) → R (.inl (some (.int z))) hp) :
    ∀ (jj x : Nat) (w wx : Int32) (hp : amH), bHk 84 bTT hp → bFr wWkE hp0 hp → wx.toInt = (x : Int) → x + jj = V → ((w.toInt = 1 ∧ pfB V T a b = true) ∨ (w.toInt = 0 ∧ ∀ y, y < x → ¬ (cyB T a b y = true ∧ cyL T a b y + 2 + iv (¬ T a b = -1) = V))) → xV (d + 3) am_m305 20 [some (.ref 66), some (.int wa), some (.int wb), some (.int wo), some (.int w), some (.int wx)] [] hp R := by
  intro jj
  induction jj with
  | zero =>
    intro x w wx hp hH hF hx hj hw
    have hB : rdOk hp V T := rdOk_fr hB0 (fun i => r_fr hF rfl)
    have h15 : V ≤ 15 := hB.2.1.2.1
    have b0 : rN hp 67 0 = (V : Int) := hB.1
    obtain rfl : x = V := by omega
    refine xild2 22 ⟨u305, _, rfl⟩ rfl rfl ?_
    refine xald 23 ⟨u305, _, rfl⟩ rfl rfl ?_
    refine xcall 26 [.ref 66] [.int _] hH ⟨u305, _, rfl⟩ rfl rfl rfl rfl rfl (k_points hH (fun z23 h23 => ⟨_, rfl, ?_⟩))
    refine xcmp_ge 29 ⟨u305, _, rfl⟩ rfl (fun c26 => ?_) (fun c26 => ?_)
    · refine xild2 68 ⟨u305, _, rfl⟩ rfl rfl ?_
      rcases hw with ⟨hw, he⟩ | ⟨hw, he⟩
      · exact xretB ⟨u305, _, rfl⟩ rfl (Or.inr hw) (hR _ _ hH hF (by unfold pfN; rw [iv_t he]; exact hw))
      · exact xretB ⟨u305, _, rfl⟩ rfl (Or.inl hw) (hR _ _ hH hF (by
          unfold pfN
          rw [iv_f (fun z => by
            obtain ⟨y, y1, y2, y3⟩ := pfB_t.mp z
            exact he y y1 ⟨y2, y3⟩)]
          exact hw))
    · omega
  | succ jj ih =>
    intro x w wx hp hH hF hx hj hw
    have hB : rdOk hp V T := rdOk_fr hB0 (fun i => r_fr hF rfl)
    have h15 : V ≤ 15 := hB.2.1.2.1
    have b0 : rN hp 67 0 = (V : Int) := hB.1
    refine xild2 22 ⟨u305, _, rfl⟩ rfl rfl ?_
    refine xald 23 ⟨u305, _, rfl⟩ rfl rfl ?_
    refine xcall 26 [.ref 66] [.int _] hH ⟨u305, _, rfl⟩ rfl rfl rfl rfl rfl (k_points hH (fun z23 h23 => ⟨_, rfl, ?_⟩))
    refine xcmp_ge 29 ⟨u305, _, rfl⟩ rfl (fun c26 => ?_) (fun c26 => ?_)
    · omega
    · refine xild2 31 ⟨u305, _, rfl⟩ rfl rfl ?_
      refine xif_ne 34 ⟨u305, _, rfl⟩ rfl (fun c31 => ?_) (fun c31 => ?_)
      · have w1 : pfB V T a b = true := by
          rcases hw with ⟨-, he⟩ | ⟨hw, -⟩
          · exact he
          · omega
        refine xcst 54 (1) ⟨u305, _, rfl⟩ rfl (by decide) (fun z53 h53 => ?_)
        refine xgoto ⟨u305, _, rfl⟩ ?_
        refine xist2 60 ⟨u305, _, rfl⟩ rfl rfl ?_
        refine xinc 63 (1) ⟨u305, _, rfl⟩ rfl rfl rfl (by decide) (by omega) (by omega) (fun z60 h60 => ?_)
        refine xgoto ⟨u305, _, rfl⟩ ?_
        exact ih (x + 1) _ _ hp hH hF (by omega) (by omega) (Or.inl ⟨by omega, w1⟩)
      · refine xald 35 ⟨u305, _, rfl⟩ rfl rfl ?_
        refine xild 36 ⟨u305, _, rfl⟩ rfl rfl ?_
        refine xild 37 ⟨u305, _, rfl⟩ rfl rfl ?_
        refine xild2 39 ⟨u305, _, rfl⟩ rfl rfl ?_
        refine xcall 42 [.ref 66, .int _, .int _, .int _] [] hH ⟨u305, _, rfl⟩ rfl rfl rfl rfl rfl (k_226E hH hB ha hb aV bV hx (by omega) (fun z39 hp39 hH39 F39 h39 m39 => ⟨_, rfl, ?_⟩))
        have b39 : (z39.toInt = 1 ∧ cyB T a b x = true) ∨ (z39.toInt = 0 ∧ ¬ cyB T a b x = true) := by
          by_cases q : cyB T a b x = true
          · left; rw [h39, if_pos q]; exact ⟨rfl, q⟩
          · right; rw [h39, if_neg q]; exact ⟨rfl, q⟩
        refine xif_eq 45 ⟨u305, _, rfl⟩ rfl (fun c42 => ?_) (fun c42 => ?_)
        · have nx : ¬ (cyB T a b x = true ∧ cyL T a b x + 2 + iv (¬ T a b = -1) = V) := fun z => by
            rcases b39 with ⟨q, -⟩ | ⟨-, q⟩
            · omega
            · exact q z.1
          refine xcst 58 (0) ⟨u305, _, rfl⟩ rfl (by decide) (fun z57 h57 => ?_)
          refine xist2 60 ⟨u305, _, rfl⟩ rfl rfl ?_
          refine xinc 63 (1) ⟨u305, _, rfl⟩ rfl rfl rfl (by decide) (by omega) (by omega) (fun z60 h60 => ?_)
          refine xgoto ⟨u305, _, rfl⟩ ?_
          refine ih (x + 1) _ _ hp39 hH39 (hF.trans F39) (by omega) (by omega) (Or.inr ⟨by omega, fun y hy => ?_⟩)
          rcases hw with ⟨hw, -⟩ | ⟨hw, he⟩
          · omega
          by_cases g : y = x
          · subst g; exact nx
          · exact he y (by omega)
        · have q1 : cyB T a b x = true := by
            rcases b39 with ⟨-, q⟩ | ⟨q, -⟩
            · exact q
            · omega
          have q2 := (m39 q1).1
          refine xald 46 ⟨u305, _, rfl⟩ rfl rfl ?_
          refine xgetI 49 hH39 ⟨u305, _, rfl⟩ rfl rfl (fun z46 h46 => ?_)
          refine xild 50 ⟨u305, _, rfl⟩ rfl rfl ?_
          refine xcmp_ne 53 ⟨u305, _, rfl⟩ rfl (fun c50 => ?_) (fun c50 => ?_)
          · have nx : ¬ (cyB T a b x = true ∧ cyL T a b x + 2 + iv (¬ T a b = -1) = V) := fun z => by have := z.2; omega
            refine xcst 58 (0) ⟨u305, _, rfl⟩ rfl (by decide) (fun z57 h57 => ?_)
            refine xist2 60 ⟨u305, _, rfl⟩ rfl rfl ?_
            refine xinc 63 (1) ⟨u305, _, rfl⟩ rfl rfl rfl (by decide) (by omega) (by omega) (fun z60 h60 => ?_)
            refine xgoto ⟨u305, _, rfl⟩ ?_
            refine ih (x + 1) _ _ hp39 hH39 (hF.trans F39) (by omega) (by omega) (Or.inr ⟨by omega, fun y hy => ?_⟩)
            rcases hw with ⟨hw, -⟩ | ⟨hw, he⟩
            · omega
            by_cases g : y = x
            · subst g; exact nx
            · exact he y (by omega)
          · have yx : pfB V T a b = true := pfB_t.mpr ⟨x, by omega, q1, by omega⟩
            refine xcst 54 (1) ⟨u305, _, rfl⟩ rfl (by decide) (fun z53 h53 => ?_)
            refine xgoto ⟨u305, _, rfl⟩ ?_
            refine xist2 60 ⟨u305, _, rfl⟩ rfl rfl ?_
            refine xinc 63 (1) ⟨u305, _, rfl⟩ rfl rfl rfl (by decide) (by omega) (by omega) (fun z60 h60 => ?_)
            refine xgoto ⟨u305, _, rfl⟩ ?_
            exact ih (x + 1) _ _ hp39 hH39 (hF.trans F39) (by omega) (by omega) (Or.inl ⟨by omega, yx⟩)
theorem k_305E {d V a b : Nat} {T : sT} {hp : amH} {R : xQ} {wa wb : Int32} (hH : bHk 84 bTT hp) (hB : rdOk hp V T) (ha : wa.toInt = (a : Int)) (hb : wb.toInt = (b : Int)) (aV : a < V) (bV : b < V) (hab : ¬ a = b)
    (hR : ∀ (z : Int32) hp1, bHk 84 bTT hp1 → bFr wWkE hp hp1 → z.toInt = ((pfN V T a b : Nat) : Int) → R (.inl (some (.int z))) hp1) : xK (d + 3) 305 [.ref 66, .int wa, .int wb] hp R := by
  have h15 : V ≤ 15 := hB.2.1.2.1
  have b0 : rN hp 67 0 = (V : Int) := hB.1
  have et : tT hp a b = T a b := hB.2.2.1 a b (by omega) (by omega)
  refine xin (M := am_m305) rfl rfl rfl ?_
  refine xald 1 ⟨u305, _, rfl⟩ rfl rfl ?_
  refine xcall 4 [.ref 66] [] hH ⟨u305, _, rfl⟩ rfl rfl rfl rfl rfl (k_points hH (fun z1 h1 => ⟨_, rfl, ?_⟩))
  refine xcst 5 (2) ⟨u305, _, rfl⟩ rfl (by decide) (fun z4 h4 => ?_)
  refine xsub 6 _ ⟨u305, _, rfl⟩ rfl rfl (by omega) (by omega) (fun z5 h5 => ?_)
  refine xald 7 ⟨u305, _, rfl⟩ rfl rfl ?_
  refine xild 8 ⟨u305, _, rfl⟩ rfl rfl ?_
  refine xild 9 ⟨u305, _, rfl⟩ rfl rfl ?_
  refine xcall 12 [.ref 66, .int _, .int _] [.int _] hH ⟨u305, _, rfl⟩ rfl rfl rfl rfl rfl (k_cov hH (by omega) (by omega) (by omega) (by omega) (fun z9 h9 => ⟨_, rfl, ?_⟩))
  have e9 : z9.toInt = ((iv (¬ T a b = -1) : Nat) : Int) := by
    rw [h9, show wa.toInt.toNat = a by omega, show wb.toInt.toNat = b by omega]
    unfold cv
    rw [et]
    by_cases g : T a b = -1
    · rw [if_pos g, iv_f (fun z => z g)]; rfl
    · rw [if_neg g, iv_t g]; rfl
  refine xsub 13 _ ⟨u305, _, rfl⟩ rfl rfl (by omega) (by omega) (fun z12 h12 => ?_)
  refine xist 14 ⟨u305, _, rfl⟩ rfl rfl ?_
  refine xcst 15 (0) ⟨u305, _, rfl⟩ rfl (by decide) (fun z14 h14 => ?_)
  refine xist2 17 ⟨u305, _, rfl⟩ rfl rfl ?_
  refine xcst 18 (0) ⟨u305, _, rfl⟩ rfl (by decide) (fun z17 h17 => ?_)
  refine xist2 20 ⟨u305, _, rfl⟩ rfl rfl ?_
  exact l305E hB ha hb aV bV hab (by omega) hR V 0 _ _ _ hH (bFr.refl _ _) h17 (by omega) (Or.inr ⟨h14, fun y hy => absurd hy (Nat.not_lt_zero y)⟩)
theorem u306 : bUp 0 am_m306.1 = true := by decide +kernel
theorem l306i {d a V : Nat} {T : sT} {hp0 : amH} {R : xQ} {wa : Int32} (hB0 : rdOk hp0 V T) (ha : wa.toInt = (a : Int)) (aV : a < V)
    (hQ : ∀ (w wb : Int32) (hp : amH), bHk 84 bTT hp → bFr wWkE hp0 hp → w.toInt = ((prT V (pfN V T) (15 * (a + 1)) : Nat) : Int) → xV (d + 4) am_m306 61 [some (.ref 66), some (.int w), some (.int wa), some (.int wb)] [] hp R) :
    ∀ (jj b : Nat) (w wb : Int32) (hp : amH), bHk 84 bTT hp → bFr wWkE hp0 hp → wb.toInt = (b : Int) → a < b → b + jj = V → w.toInt = ((prT V (pfN V T) (15 * a + b) : Nat) : Int) → xV (d + 4) am_m306 30 [some (.ref 66), some (.int w), some (.int wa), some (.int wb)] [] hp R := by
  intro jj
  induction jj with
  | zero =>
    intro b w wb hp hH hF hb hab hj hw
    have hB : rdOk hp V T := rdOk_fr hB0 (fun i => r_fr hF rfl)
    have h15 : V ≤ 15 := hB.2.1.2.1
    have b0 : rN hp 67 0 = (V : Int) := hB.1
    have e := prT_row (V := V) (a := a) (b := b) (f := pfN V T) h15 (by omega)
    refine xild 31 ⟨u306, _, rfl⟩ rfl rfl ?_
    refine xald 32 ⟨u306, _, rfl⟩ rfl rfl ?_
    refine xcall 35 [.ref 66] [.int _] hH ⟨u306, _, rfl⟩ rfl rfl rfl rfl rfl (k_points hH (fun z32 h32 => ⟨_, rfl, ?_⟩))
    refine xcmp_ge 38 ⟨u306, _, rfl⟩ rfl (fun c35 => ?_) (fun c35 => ?_)
    · exact hQ _ _ _ hH hF (by rw [e]; exact hw)
    · omega
  | succ jj ih =>
    intro b w wb hp hH hF hb hab hj hw
    have hB : rdOk hp V T := rdOk_fr hB0 (fun i => r_fr hF rfl)
    have h15 : V ≤ 15 := hB.2.1.2.1
    have b0 : rN hp 67 0 = (V : Int) := hB.1
    have s1 := prT_s (V := V) (a := a) (b := b) (f := pfN V T) (by omega) ⟨hab, by omega⟩
    have le1 := prT_le (V := V) (c := 1) pfN_1 (15 * a + b)
    have le2 := pfN_1 (V := V) (T := T) a b
    refine xild 31 ⟨u306, _, rfl⟩ rfl rfl ?_
    refine xald 32 ⟨u306, _, rfl⟩ rfl rfl ?_
    refine xcall 35 [.ref 66] [.int _] hH ⟨u306, _, rfl⟩ rfl rfl rfl rfl rfl (k_points hH (fun z32 h32 => ⟨_, rfl, ?_⟩))
    refine xcmp_ge 38 ⟨u306, _, rfl⟩ rfl (fun c35 => ?_) (fun c35 => ?_)
    · omega
    · refine xild 39 ⟨u306, _, rfl⟩ rfl rfl ?_
      refine xald 40 ⟨u306, _, rfl⟩ rfl rfl ?_
      refine xild 41 ⟨u306, _, rfl⟩ rfl rfl ?_
      refine xild 42 ⟨u306, _, rfl⟩ rfl rfl ?_
      refine xcall 45 [.ref 66, .int _, .int _] [.int _] hH ⟨u306, _, rfl⟩ rfl rfl rfl rfl rfl (k_305E hH hB (a := a) (b := b) ha hb aV (by omega) (by omega) (fun z42 hp42 hH42 F42 h42 => ⟨_, rfl, ?_⟩))
      refine xif_eq 48 ⟨u306, _, rfl⟩ rfl (fun c45 => ?_) (fun c45 => ?_)
      · refine xcst 53 (0) ⟨u306, _, rfl⟩ rfl (by decide) (fun z52 h52 => ?_)
        refine xadd 54 _ ⟨u306, _, rfl⟩ rfl rfl (by omega) (by omega) (fun z53 h53 => ?_)
        refine xist 55 ⟨u306, _, rfl⟩ rfl rfl ?_
        refine xinc 58 (1) ⟨u306, _, rfl⟩ rfl rfl rfl (by decide) (by omega) (by omega) (fun z55 h55 => ?_)
        refine xgoto ⟨u306, _, rfl⟩ ?_
        exact ih (b + 1) _ _ hp42 hH42 (hF.trans F42) (by omega) (by omega) (by omega) (by rw [s1]; omega)
      · refine xcst 49 (1) ⟨u306, _, rfl⟩ rfl (by decide) (fun z48 h48 => ?_)
        refine xgoto ⟨u306, _, rfl⟩ ?_
        refine xadd 54 _ ⟨u306, _, rfl⟩ rfl rfl (by omega) (by omega) (fun z53 h53 => ?_)
        refine xist 55 ⟨u306, _, rfl⟩ rfl rfl ?_
        refine xinc 58 (1) ⟨u306, _, rfl⟩ rfl rfl rfl (by decide) (by omega) (by omega) (fun z55 h55 => ?_)
        refine xgoto ⟨u306, _, rfl⟩ ?_
        exact ih (b + 1) _ _ hp42 hH42 (hF.trans F42) (by omega) (by omega) (by omega) (by rw [s1]; omega)
theorem l306o {d V : Nat} {T : sT} {hp0 : amH} {R : xQ} (hB0 : rdOk hp0 V T) (h7 : 7 ≤ V)
    (hR : ∀ (z : Int32) (hp : amH), bHk 84 bTT hp → bFr wWkE hp0 hp → z.toInt = ((prT V (pfN V T) 225 : Nat) : Int) → R (.inl (some (.int z))) hp) :
    ∀ (jj a : Nat) (w wa : Int32) (v3 : Option Value) (hp : amH), bHk 84 bTT hp → bFr wWkE hp0 hp → wa.toInt = (a : Int) → a + jj = V → w.toInt = ((prT V (pfN V T) (15 * a) : Nat) : Int) → xV (d + 4) am_m306 9 [some (.ref 66), some (.int w), some (.int wa), v3] [] hp R := by
  intro jj
  induction jj with
  | zero =>
    intro a w wa v3 hp hH hF ha hj hw
    have hB : rdOk hp V T := rdOk_fr hB0 (fun i => r_fr hF rfl)
    have h15 : V ≤ 15 := hB.2.1.2.1
    have b0 : rN hp 67 0 = (V : Int) := hB.1
    have e := prT_end (V := V) (a := a) (f := pfN V T) h15 (by omega)
    refine xild 10 ⟨u306, _, rfl⟩ rfl rfl ?_
    refine xald 11 ⟨u306, _, rfl⟩ rfl rfl ?_
    refine xcall 14 [.ref 66] [.int _] hH ⟨u306, _, rfl⟩ rfl rfl rfl rfl rfl (k_points hH (fun z11 h11 => ⟨_, rfl, ?_⟩))
    refine xcmp_ge 17 ⟨u306, _, rfl⟩ rfl (fun c14 => ?_) (fun c14 => ?_)
    · refine xild 68 ⟨u306, _, rfl⟩ rfl rfl ?_
      exact xret ⟨u306, _, rfl⟩ rfl (hR _ _ hH hF (by rw [e]; exact hw))
    · omega
  | succ jj ih =>
    intro a w wa v3 hp hH hF ha hj hw
    have hB : rdOk hp V T := rdOk_fr hB0 (fun i => r_fr hF rfl)
    have h15 : V ≤ 15 := hB.2.1.2.1
    have b0 : rN hp 67 0 = (V : Int) := hB.1
    have eb := prT_beg (V := V) (a := a) (f := pfN V T)
    refine xild 10 ⟨u306, _, rfl⟩ rfl rfl ?_
    refine xald 11 ⟨u306, _, rfl⟩ rfl rfl ?_
    refine xcall 14 [.ref 66] [.int _] hH ⟨u306, _, rfl⟩ rfl rfl rfl rfl rfl (k_points hH (fun z11 h11 => ⟨_, rfl, ?_⟩))
    refine xcmp_ge 17 ⟨u306, _, rfl⟩ rfl (fun c14 => ?_) (fun c14 => ?_)
    · omega
    · refine xald 18 ⟨u306, _, rfl⟩ rfl rfl ?_
      refine xcall 21 [.ref 66] [] hH ⟨u306, _, rfl⟩ rfl rfl rfl rfl rfl (k_points hH (fun z18 h18 => ⟨_, rfl, ?_⟩))
      refine xbip 23 (6) ⟨u306, _, rfl⟩ rfl (by decide) (fun z21 h21 => ?_)
      refine xcmp_le 26 ⟨u306, _, rfl⟩ rfl (fun c23 => ?_) (fun c23 => ?_)
      · omega
      · refine xild 27 ⟨u306, _, rfl⟩ rfl rfl ?_
        refine xcst 28 (1) ⟨u306, _, rfl⟩ rfl (by decide) (fun z27 h27 => ?_)
        refine xadd 29 _ ⟨u306, _, rfl⟩ rfl rfl (by omega) (by omega) (fun z28 h28 => ?_)
        refine xist 30 ⟨u306, _, rfl⟩ rfl rfl ?_
        refine l306i hB0 ha (by omega) (fun x1 xb hp9 g0 g1 r1 => ?_) (V - (a + 1)) (a + 1) _ _ _ hH hF (by omega) (by omega) (by omega) (by rw [eb]; exact hw)
        refine xinc 64 (1) ⟨u306, _, rfl⟩ rfl rfl rfl (by decide) (by omega) (by omega) (fun z61 h61 => ?_)
        refine xgoto ⟨u306, _, rfl⟩ ?_
        exact ih (a + 1) _ _ _ _ g0 g1 (by omega) (by omega) r1
theorem k_306E {d V n : Nat} {h : Nat → sR} {sv : Option sR} {T : sT} {ty : Nat → Int} {hp : amH} {R : xQ} (hH : bHk 84 bTT hp) (hP : P0 hp) (hS : rfS hp (V, T, ty) n h sv)
    (hR : ∀ (z : Int32) hp1, bHk 84 bTT hp1 → P0 hp1 → bFr wM hp hp1 → rfS hp1 (V, T, ty) n h sv → z.toInt = ((pfV V T : Nat) : Int) → R (.inl (some (.int z))) hp1) : xK (d + 6) 306 [.ref 66] hp R := by
  have hB : rdOk hp V T := rowOk_rd hS.1
  have b0 : rN hp 67 0 = (V : Int) := hB.1
  have hT0 : sOk V T := hB.2.1
  have h15 : V ≤ 15 := hT0.2.1
  have l35 : (trL T 225).length ≤ 35 := trL_35 hT0 225
  have h3 : 3 ≤ V := hT0.1
  refine xin (M := am_m306) rfl rfl rfl ?_
  refine xald 1 ⟨u306, _, rfl⟩ rfl rfl ?_
  refine xcst 2 (0) ⟨u306, _, rfl⟩ rfl (by decide) (fun z1 h1 => ?_)
  refine xputI 5 hH ⟨u306, _, rfl⟩ rfl rfl ⟨rfl, rfl⟩ (by omega) (by omega) (fun hp2 hH2 U2 => ?_)
  have s2 := U2.1
  have S2 := rfS_W (W := [(66, 7)]) hS (rU_fr U2 rfl) (fun _ => rfl) rfl rfl (fun _ => rfl) (fun _ => rfl)
  have P2 := P0_W (W := [(66, 7)]) (by decide) (rU_fr U2 rfl) hP
  have b2 : rN hp2 67 0 = (V : Int) := (rowOk_rd S2.1).1
  refine xcst 6 (0) ⟨u306, _, rfl⟩ rfl (by decide) (fun z5 h5 => ?_)
  refine xist 7 ⟨u306, _, rfl⟩ rfl rfl ?_
  refine xcst 8 (0) ⟨u306, _, rfl⟩ rfl (by decide) (fun z7 h7 => ?_)
  refine xist 9 ⟨u306, _, rfl⟩ rfl rfl ?_
  by_cases h7' : 7 ≤ V
  · refine xpad 1 ?_
    exact l306o (rowOk_rd S2.1) h7' (fun z hp1 g1 g2 g3 => hR z hp1 g1 (P0_W (W := wWkE) (by decide) g2 P2) ((rU_fr U2 (by decide)).trans (bFr_sub g2 (by decide))) (rfS_W S2 g2 (fun _ => rfl) rfl rfl (fun _ => rfl) (fun _ => rfl)) (by unfold pfV; rw [if_neg (by omega)]; exact g3)) V 0 _ _ _ hp2 hH2 (bFr.refl _ _) h7 (by omega) h5
  · refine xild 10 ⟨u306, _, rfl⟩ rfl rfl ?_
    refine xald 11 ⟨u306, _, rfl⟩ rfl rfl ?_
    refine xcall 14 [.ref 66] [.int _] hH2 ⟨u306, _, rfl⟩ rfl rfl rfl rfl rfl (k_points hH2 (fun z11 h11 => ⟨_, rfl, ?_⟩))
    refine xcmp_ge 17 ⟨u306, _, rfl⟩ rfl (fun c14 => ?_) (fun c14 => ?_)
    · omega
    · refine xald 18 ⟨u306, _, rfl⟩ rfl rfl ?_
      refine xcall 21 [.ref 66] [] hH2 ⟨u306, _, rfl⟩ rfl rfl rfl rfl rfl (k_points hH2 (fun z18 h18 => ⟨_, rfl, ?_⟩))
      refine xbip 23 (6) ⟨u306, _, rfl⟩ rfl (by decide) (fun z21 h21 => ?_)
      refine xcmp_le 26 ⟨u306, _, rfl⟩ rfl (fun c23 => ?_) (fun c23 => ?_)
      · refine xild 68 ⟨u306, _, rfl⟩ rfl rfl ?_
        exact xret ⟨u306, _, rfl⟩ rfl (hR _ hp2 hH2 P2 (rU_fr U2 (by decide)) S2 (by unfold pfV; rw [if_pos (by omega)]; exact h5))
      · omega
