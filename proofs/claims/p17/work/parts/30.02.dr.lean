/-! ##### q37 ##### -/
section
/-! ===== perfectPairs on both sides ===== -/
/-- a sum over pairs a < b < V, by 15 * a + b -/
def prT (V : Nat) (f : Nat → Nat → Nat) : Nat → Nat
  | 0 => 0
  | n + 1 => if n / 15 < n % 15 ∧ n % 15 < V then prT V f n + f (n / 15) (n % 15) else prT V f n
theorem prT_u {V : Nat} {f : Nat → Nat → Nat} (n : Nat) : prT V f (n + 1) = if n / 15 < n % 15 ∧ n % 15 < V then prT V f n + f (n / 15) (n % 15) else prT V f n := rfl
theorem prT_no {V : Nat} {f : Nat → Nat → Nat} (n : Nat) : ∀ k, (∀ j, n ≤ j → j < n + k → ¬ (j / 15 < j % 15 ∧ j % 15 < V)) → prT V f (n + k) = prT V f n
  | 0, _ => rfl
  | k + 1, h => by
    rw [← prT_no n k (fun j h1 h2 => h j h1 (by omega))]
    show prT V f (n + k + 1) = _
    rw [prT_u, if_neg (h (n + k) (by omega) (by omega))]
theorem prT_s {V a b : Nat} {f : Nat → Nat → Nat} (hb : b < 15) (h : a < b ∧ b < V) : prT V f (15 * a + (b + 1)) = prT V f (15 * a + b) + f a b := by
  show prT V f (15 * a + b + 1) = _
  rw [prT_u, show (15 * a + b) / 15 = a by omega, show (15 * a + b) % 15 = b by omega, if_pos h]
theorem prT_row {V a b : Nat} {f : Nat → Nat → Nat} (hV : V ≤ 15) (hb : V = b) : prT V f (15 * (a + 1)) = prT V f (15 * a + b) := by
  rw [← hb, show 15 * (a + 1) = 15 * a + V + (15 - V) by omega]
  exact prT_no _ _ (fun k k1 k2 => fun z => by omega)
theorem prT_beg {V a : Nat} {f : Nat → Nat → Nat} : prT V f (15 * a + (a + 1)) = prT V f (15 * a) :=
  prT_no _ _ (fun k k1 k2 => fun z => by omega)
theorem prT_end {V a : Nat} {f : Nat → Nat → Nat} (hV : V ≤ 15) (ha : V = a) : prT V f 225 = prT V f (15 * a) := by
  rw [← ha, show 225 = 15 * V + (225 - 15 * V) by omega]
  exact prT_no _ _ (fun k k1 k2 => fun z => by omega)
theorem prT_le {V c : Nat} {f : Nat → Nat → Nat} (hf : ∀ a b, f a b ≤ c) : ∀ n, prT V f n ≤ c * n
  | 0 => Nat.zero_le _
  | n + 1 => by
    have h1 := prT_le (V := V) hf n
    have h2 := hf (n / 15) (n % 15)
    rw [prT_u, Nat.mul_succ]
    split <;> omega
def pfB (V : Nat) (T : sT) (a b : Nat) : Bool := (List.range V).any (fun x => cyB T a b x && decide (cyL T a b x + 2 + iv (¬ T a b = -1) = V))
theorem pfB_t {V a b : Nat} {T : sT} : pfB V T a b = true ↔ ∃ x, x < V ∧ cyB T a b x = true ∧ cyL T a b x + 2 + iv (¬ T a b = -1) = V := by
  unfold pfB
  rw [List.any_eq_true]
  constructor
  · rintro ⟨x, h1, h2⟩
    obtain ⟨h3, h4⟩ := Bool.and_eq_true_iff.mp h2
    exact ⟨x, List.mem_range.mp h1, h3, of_decide_eq_true h4⟩
  · rintro ⟨x, h1, h2, h3⟩
    exact ⟨x, List.mem_range.mpr h1, Bool.and_eq_true_iff.mpr ⟨h2, decide_eq_true h3⟩⟩
def pfN (V : Nat) (T : sT) (a b : Nat) : Nat := iv (pfB V T a b = true)
def pfV (V : Nat) (T : sT) : Nat := if V < 7 then 0 else prT V (pfN V T) 225
theorem sm_ltP {f g : Nat → Nat} {n k : Nat} (h : ∀ i, i < n → f i ≤ g i) (hk : k < n) (h2 : f k < g k) : sm f n < sm g n := by
  have a : sm (fun i => f i + (if i = k then 1 else 0)) n = sm f n + sm (fun i => if i = k then 1 else 0) n := sm_add f (fun i => if i = k then 1 else 0) n
  have b : sm (fun i => if i = k then 1 else 0) n = 1 := sm_one hk (if_pos rfl) (fun i _ g => if_neg g)
  have c : sm (fun i => f i + (if i = k then 1 else 0)) n ≤ sm g n := sm_le n (fun i hi => by
    by_cases e : i = k
    · subst e; rw [if_pos rfl]; omega
    · rw [if_neg e]; have := h i hi; omega)
  omega
theorem sm_ltV : ∀ V : Fin 16, sm (fun u => iv (u < V.1)) 15 = V.1 := by decide +kernel
/-- a cycle through all other points is the only one -/
theorem pf_one {V a b x y : Nat} {T : sT} (hT : sOk V T) (aV : a < V) (bV : b < V) (hab : ¬ a = b) (hx : x < V) (hy : y < V) (cx : cyB T a b x = true) (cy : cyB T a b y = true) (e : cyL T a b x + 2 + iv (¬ T a b = -1) = V) : y = x := by
  have h15 := hT.2.1
  obtain ⟨x1, x2, x3, x4, x5⟩ := (cyB_s hT).mp cx
  obtain ⟨y1, y2, y3, y4, y5⟩ := (cyB_s hT).mp cy
  by_cases g : onC T a b x y
  · exact (cyB_one hT cx cy g (onC_x y4)).symm
  · exfalso
    have e1 := onC_sm hT hx x4
    have ec : sm (fun u => iv (T a b = (u : Int))) 15 = iv (¬ T a b = -1) := by
      by_cases k : T a b = -1
      · rw [iv_f (p := ¬ T a b = -1) (fun z => z k)]
        exact sm_none (fun u _ => iv_f (by omega))
      · obtain ⟨c, e0, -, -, k3, -⟩ := sOk_at hT rfl k
        rw [iv_t k]
        exact sm_one (k := c) (by omega) (iv_t e0) (fun u _ hne => iv_f (by omega))
    have s1 : sm (fun u => (iv (u = a) + iv (u = b)) + iv (T a b = (u : Int)) + sm (fun k => iv (wl T a b false k x = some u)) (cyL T a b x)) 15 < sm (fun u => iv (u < V)) 15 := by
      refine sm_ltP (k := y) (fun u hu => ?_) (by omega) ?_
      · have q := iv_onC (u := u) hT x4
        by_cases o : onC T a b x u
        · have lu := onC_lt hT hx o
          obtain ⟨k, k1, k2⟩ := id o
          have off := wl_offs hT k false _ u ⟨x1, x2, x3⟩ k2
          rw [iv_f off.1, iv_f off.2.1, iv_f off.2.2, iv_t lu]
          have := q.1
          omega
        · have z0 : sm (fun k => iv (wl T a b false k x = some u)) (cyL T a b x) = 0 := by
            rcases Nat.eq_zero_or_pos (sm (fun k => iv (wl T a b false k x = some u)) (cyL T a b x)) with z | z
            · exact z
            · exact absurd (q.2 z) o
          rw [z0]
          by_cases g1 : u = a
          · rw [iv_t g1, iv_f (p := u = b) (by omega), iv_f (p := T a b = (u : Int)) (fun z => by
              obtain ⟨c, e0, -, -, -, -, k5, -⟩ := sOk_at hT z (by omega)
              omega), iv_t (by omega)]
            exact Nat.le_refl _
          · by_cases g2 : u = b
            · rw [iv_f g1, iv_t g2, iv_f (p := T a b = (u : Int)) (fun z => by
                obtain ⟨c, e0, -, -, -, -, -, k6, -⟩ := sOk_at hT z (by omega)
                omega), iv_t (by omega)]
              exact Nat.le_refl _
            · rw [iv_f g1, iv_f g2]
              by_cases g3 : T a b = (u : Int)
              · obtain ⟨c, e0, -, -, k3, -⟩ := sOk_at hT g3 (by omega)
                rw [iv_t g3, iv_t (by omega)]
                exact Nat.le_refl _
              · rw [iv_f g3]
                exact Nat.zero_le _
      · have q := iv_onC (u := y) hT x4
        have z0 : sm (fun k => iv (wl T a b false k x = some y)) (cyL T a b x) = 0 := by
          rcases Nat.eq_zero_or_pos (sm (fun k => iv (wl T a b false k x = some y)) (cyL T a b x)) with z | z
          · exact z
          · exact absurd (q.2 z) g
        rw [z0, iv_f y1, iv_f y2, iv_f y3, iv_t hy]
        exact Nat.zero_lt_one
    have s2 : sm (fun u => iv (u < V)) 15 = V := sm_ltV ⟨V, by omega⟩
    rw [s2, sm_add, sm_add, sm_add, sm_eq1 (by omega), sm_eq1 (by omega), ec, e1] at s1
    omega
/-- the class's test -/
theorem pf_C {V a b : Nat} {T : sT} (hT : sOk V T) (aV : a < V) (bV : b < V) (hab : ¬ a = b) : pfB V T a b = true ↔ ((cyS T a b V).length = 1 ∧ cyL T a b ((cyS T a b V).getD 0 0) + 2 + iv (¬ T a b = -1) = V) := by
  rw [pfB_t]
  constructor
  · rintro ⟨x, hx, cx, e⟩
    obtain ⟨m1, m2⟩ := fL_at (B := cyB T a b) (n := x) (m := V) cx rfl hx
    have m1 : (fL (cyB T a b) x).length < (cyS T a b V).length := m1
    have all : ∀ i, i < (cyS T a b V).length → (cyS T a b V).getD i 0 = x := fun i hi => by
      obtain ⟨g1, g2⟩ := cyS_get hi
      exact pf_one hT aV bV hab hx g2 cx g1 e
    have l1 : (cyS T a b V).length = 1 := by
      apply Classical.byContradiction
      intro g
      have := cyS_inj (T := T) (a := a) (b := b) (n := V) (q := 0) (r := 1) (by omega) (by omega) ((all 0 (by omega)).trans (all 1 (by omega)).symm)
      omega
    exact ⟨l1, by rw [all 0 (by omega)]; exact e⟩
  · rintro ⟨l1, e⟩
    obtain ⟨g1, g2⟩ := cyS_get (T := T) (a := a) (b := b) (n := V) (q := 0) (by omega)
    exact ⟨_, g2, g1, e⟩
theorem u189 : bUp 0 am_m189.1 = true := by decide +kernel
theorem k_189E {d V a b : Nat} {T : sT} {hp : amH} {R : xQ} {wa wb : Int32} (hH : bHk 84 bTT hp) (hB : bdOk hp 3 V T) (hL : lsN hp 3 T 225) (ha : wa.toInt = (a : Int)) (hb : wb.toInt = (b : Int)) (aV : a < V) (bV : b < V) (hab : ¬ a = b)
    (hR : ∀ (z : Int32) hp1, bHk 84 bTT hp1 → bFx [52, 53, 54, 55] hp hp1 → z.toInt = ((pfN V T a b : Nat) : Int) → R (.inl (some (.int z))) hp1) : xK (d + 4) 189 [.ref 0, .int wa, .int wb] hp R := by
  have hT := hB.2.1
  have h15 := hT.2.1
  have b0 : rN hp 3 0 = (V : Int) := hB.1
  have iv1 : iv (¬ T a b = -1) ≤ 1 := iv_le
  obtain ⟨y1, y2, y3⟩ := cy_15 (T := T) (n := V) hT aV bV hab (Nat.le_refl V)
  refine xin (M := am_m189) rfl rfl rfl ?_
  refine xald 1 ⟨u189, _, rfl⟩ rfl rfl ?_
  refine xgetD 4 (3) hH ⟨u189, _, rfl⟩ rfl (by decide) (by decide) rfl rfl (by decide) ?_
  refine xgetC 7 hH ⟨u189, _, rfl⟩ rfl (by decide) (by decide) rfl rfl (by decide) (fun z4 h4 => ?_)
  refine xald 8 ⟨u189, _, rfl⟩ rfl rfl ?_
  refine xgetD 11 (3) hH ⟨u189, _, rfl⟩ rfl (by decide) (by decide) rfl rfl (by decide) ?_
  refine xild 12 ⟨u189, _, rfl⟩ rfl rfl ?_
  refine xild 13 ⟨u189, _, rfl⟩ rfl rfl ?_
  refine xcallC 16 (o := 3) [.int _, .int _] [.int _] hH ⟨u189, _, rfl⟩ rfl rfl (by decide) rfl (by decide) rfl ⟨rfl, rfl, rfl, rfl⟩ rfl (k_thd (o := 3) (Or.inl rfl) hH hB (fun z13 h13 => ⟨_, rfl, ?_⟩))
  rw [if_pos (by omega), show Int32.toInt wa = ((a : Nat) : Int) from ha, show Int32.toInt wb = ((b : Nat) : Int) from hb, Int.toNat_natCast, Int.toNat_natCast] at h13
  refine xcst 17 (-1) ⟨u189, _, rfl⟩ rfl (by decide) (fun z16 h16 => ?_)
  refine xcmp_ne 20 ⟨u189, _, rfl⟩ rfl (fun c17 => ?_) (fun c17 => ?_)
  · refine xcst 25 (3) ⟨u189, _, rfl⟩ rfl (by decide) (fun z24 h24 => ?_)
    refine xsub 26 _ ⟨u189, _, rfl⟩ rfl rfl (by omega) (by omega) (fun z25 h25 => ?_)
    have cv : z25.toInt + 2 + ((iv (¬ T a b = -1) : Nat) : Int) = (V : Int) := by
      rw [iv_t (p := ¬ T a b = -1) (by omega)]
      omega
    refine xist 27 ⟨u189, _, rfl⟩ rfl rfl ?_
    refine xald 28 ⟨u189, _, rfl⟩ rfl rfl ?_
    refine xgetD 31 (52) hH ⟨u189, _, rfl⟩ rfl (by decide) (by decide) rfl rfl (by decide) ?_
    refine xald 32 ⟨u189, _, rfl⟩ rfl rfl ?_
    refine xgetD 35 (3) hH ⟨u189, _, rfl⟩ rfl (by decide) (by decide) rfl rfl (by decide) ?_
    refine xild 36 ⟨u189, _, rfl⟩ rfl rfl ?_
    refine xild 37 ⟨u189, _, rfl⟩ rfl rfl ?_
    refine xcallC 40 (o := 52) [.ref 3, .int _, .int _] [] hH ⟨u189, _, rfl⟩ rfl rfl (by decide) rfl (by decide) rfl ⟨rfl, rfl, rfl, rfl⟩ rfl (k_gaC hH hB hL (a := a) (b := b) ha hb aV bV hab (fun hp37 hH37 F37 C37 => ⟨_, rfl, ?_⟩))
    obtain ⟨c1, -, -, c4, -⟩ := C37
    have pc := pf_C hT aV bV hab
    have f0 := c4 0 (Nat.zero_le _)
    refine xald 41 ⟨u189, _, rfl⟩ rfl rfl ?_
    refine xgetD 44 (52) hH37 ⟨u189, _, rfl⟩ rfl (by decide) (by decide) rfl rfl (by decide) ?_
    refine xgetC 47 hH37 ⟨u189, _, rfl⟩ rfl (by decide) (by decide) rfl rfl (by decide) (fun z44 h44 => ?_)
    refine xcst 48 (1) ⟨u189, _, rfl⟩ rfl (by decide) (fun z47 h47 => ?_)
    refine xcmp_ne 51 ⟨u189, _, rfl⟩ rfl (fun c48 => ?_) (fun c48 => ?_)
    · refine xcst 68 (0) ⟨u189, _, rfl⟩ rfl (by decide) (fun z67 h67 => ?_)
      exact xretB ⟨u189, _, rfl⟩ rfl (by omega) (hR _ _ hH37 F37 (by unfold pfN; rw [iv_f (fun w => by have := (pc.mp w).1; omega)]; exact h67))
    · refine xald 52 ⟨u189, _, rfl⟩ rfl rfl ?_
      refine xgetD 55 (52) hH37 ⟨u189, _, rfl⟩ rfl (by decide) (by decide) rfl rfl (by decide) ?_
      refine xcst 56 (0) ⟨u189, _, rfl⟩ rfl (by decide) (fun z55 h55 => ?_)
      have l1 : (cyS T a b V).length = 1 := by omega
      have f1 : rN hp37 53 (0 + 1) = ((offs T a b (cyS T a b V) 1 : Nat) : Int) := c4 1 (by omega)
      have os : offs T a b (cyS T a b V) 1 = offs T a b (cyS T a b V) 0 + cyL T a b ((cyS T a b V).getD 0 0) := offs_s
      refine xcallC 59 (o := 52) [.int _] [] hH37 ⟨u189, _, rfl⟩ rfl rfl (by decide) rfl (by decide) rfl ⟨rfl, rfl, rfl, rfl⟩ rfl (k_lngC hH37 (n := 0) (by omega) (by omega) (by omega) (by rw [f0, f1, os]; exact (by omega)) (by rw [f1]; have := y3 1 (by omega); omega) (fun z56 h56 => ⟨_, rfl, ?_⟩))
      rw [f1, f0, os] at h56
      refine xild 60 ⟨u189, _, rfl⟩ rfl rfl ?_
      refine xcmp_ne 63 ⟨u189, _, rfl⟩ rfl (fun c60 => ?_) (fun c60 => ?_)
      · refine xcst 68 (0) ⟨u189, _, rfl⟩ rfl (by decide) (fun z67 h67 => ?_)
        exact xretB ⟨u189, _, rfl⟩ rfl (by omega) (hR _ _ hH37 F37 (by unfold pfN; rw [iv_f (fun w => by have := (pc.mp w).2; omega)]; exact h67))
      · refine xcst 64 (1) ⟨u189, _, rfl⟩ rfl (by decide) (fun z63 h63 => ?_)
        refine xgoto ⟨u189, _, rfl⟩ ?_
        exact xretB ⟨u189, _, rfl⟩ rfl (by omega) (hR _ _ hH37 F37 (by unfold pfN; rw [iv_t (pc.mpr ⟨l1, by omega⟩)]; exact h63))
  · refine xcst 21 (2) ⟨u189, _, rfl⟩ rfl (by decide) (fun z20 h20 => ?_)
    refine xgoto ⟨u189, _, rfl⟩ ?_
    refine xsub 26 _ ⟨u189, _, rfl⟩ rfl rfl (by omega) (by omega) (fun z25 h25 => ?_)
    have cv : z25.toInt + 2 + ((iv (¬ T a b = -1) : Nat) : Int) = (V : Int) := by
      rw [iv_f (p := ¬ T a b = -1) (by omega)]
      omega
    refine xist 27 ⟨u189, _, rfl⟩ rfl rfl ?_
    refine xald 28 ⟨u189, _, rfl⟩ rfl rfl ?_
    refine xgetD 31 (52) hH ⟨u189, _, rfl⟩ rfl (by decide) (by decide) rfl rfl (by decide) ?_
    refine xald 32 ⟨u189, _, rfl⟩ rfl rfl ?_
    refine xgetD 35 (3) hH ⟨u189, _, rfl⟩ rfl (by decide) (by decide) rfl rfl (by decide) ?_
    refine xild 36 ⟨u189, _, rfl⟩ rfl rfl ?_
    refine xild 37 ⟨u189, _, rfl⟩ rfl rfl ?_
    refine xcallC 40 (o := 52) [.ref 3, .int _, .int _] [] hH ⟨u189, _, rfl⟩ rfl rfl (by decide) rfl (by decide) rfl ⟨rfl, rfl, rfl, rfl⟩ rfl (k_gaC hH hB hL (a := a) (b := b) ha hb aV bV hab (fun hp37 hH37 F37 C37 => ⟨_, rfl, ?_⟩))
    obtain ⟨c1, -, -, c4, -⟩ := C37
    have pc := pf_C hT aV bV hab
    have f0 := c4 0 (Nat.zero_le _)
    refine xald 41 ⟨u189, _, rfl⟩ rfl rfl ?_
    refine xgetD 44 (52) hH37 ⟨u189, _, rfl⟩ rfl (by decide) (by decide) rfl rfl (by decide) ?_
    refine xgetC 47 hH37 ⟨u189, _, rfl⟩ rfl (by decide) (by decide) rfl rfl (by decide) (fun z44 h44 => ?_)
    refine xcst 48 (1) ⟨u189, _, rfl⟩ rfl (by decide) (fun z47 h47 => ?_)
    refine xcmp_ne 51 ⟨u189, _, rfl⟩ rfl (fun c48 => ?_) (fun c48 => ?_)
    · refine xcst 68 (0) ⟨u189, _, rfl⟩ rfl (by decide) (fun z67 h67 => ?_)
      exact xretB ⟨u189, _, rfl⟩ rfl (by omega) (hR _ _ hH37 F37 (by unfold pfN; rw [iv_f (fun w => by have := (pc.mp w).1; omega)]; exact h67))
    · refine xald 52 ⟨u189, _, rfl⟩ rfl rfl ?_
      refine xgetD 55 (52) hH37 ⟨u189, _, rfl⟩ rfl (by decide) (by decide) rfl rfl (by decide) ?_
      refine xcst 56 (0) ⟨u189, _, rfl⟩ rfl (by decide) (fun z55 h55 => ?_)
      have l1 : (cyS T a b V).length = 1 := by omega
      have f1 : rN hp37 53 (0 + 1) = ((offs T a b (cyS T a b V) 1 : Nat) : Int) := c4 1 (by omega)
      have os : offs T a b (cyS T a b V) 1 = offs T a b (cyS T a b V) 0 + cyL T a b ((cyS T a b V).getD 0 0) := offs_s
      refine xcallC 59 (o := 52) [.int _] [] hH37 ⟨u189, _, rfl⟩ rfl rfl (by decide) rfl (by decide) rfl ⟨rfl, rfl, rfl, rfl⟩ rfl (k_lngC hH37 (n := 0) (by omega) (by omega) (by omega) (by rw [f0, f1, os]; exact (by omega)) (by rw [f1]; have := y3 1 (by omega); omega) (fun z56 h56 => ⟨_, rfl, ?_⟩))
      rw [f1, f0, os] at h56
      refine xild 60 ⟨u189, _, rfl⟩ rfl rfl ?_
      refine xcmp_ne 63 ⟨u189, _, rfl⟩ rfl (fun c60 => ?_) (fun c60 => ?_)
      · refine xcst 68 (0) ⟨u189, _, rfl⟩ rfl (by decide) (fun z67 h67 => ?_)
        exact xretB ⟨u189, _, rfl⟩ rfl (by omega) (hR _ _ hH37 F37 (by unfold pfN; rw [iv_f (fun w => by have := (pc.mp w).2; omega)]; exact h67))
      · refine xcst 64 (1) ⟨u189, _, rfl⟩ rfl (by decide) (fun z63 h63 => ?_)
        refine xgoto ⟨u189, _, rfl⟩ ?_
        exact xretB ⟨u189, _, rfl⟩ rfl (by omega) (hR _ _ hH37 F37 (by unfold pfN; rw [iv_t (pc.mpr ⟨l1, by omega⟩)]; exact h63))
theorem u148 : bUp 0 am_m148.1 = true := by decide +kernel
theorem pfN_1 {V : Nat} {T : sT} : ∀ a b, pfN V T a b ≤ 1 := fun _ _ => iv_le
theorem l148i {d a V : Nat} {T : sT} {hp0 : amH} {R : xQ} {wa : Int32} (hB0 : bdOk hp0 3 V T) (hL0 : lsN hp0 3 T 225) (ha : wa.toInt = (a : Int)) (aV : a < V)
    (hQ : ∀ (w wb : Int32) (hp : amH), bHk 84 bTT hp → bFx [52, 53, 54, 55] hp0 hp → w.toInt = ((prT V (pfN V T) (15 * (a + 1)) : Nat) : Int) → xV (d + 5) am_m148 62 [some (.ref 0), some (.int w), some (.int wa), some (.int wb)] [] hp R) :
    ∀ (jj b : Nat) (w wb : Int32) (hp : amH), bHk 84 bTT hp → bFx [52, 53, 54, 55] hp0 hp → wb.toInt = (b : Int) → a < b → b + jj = V → w.toInt = ((prT V (pfN V T) (15 * a + b) : Nat) : Int) → xV (d + 5) am_m148 33 [some (.ref 0), some (.int w), some (.int wa), some (.int wb)] [] hp R := by
  intro jj
  induction jj with
  | zero =>
    intro b w wb hp hH hF hb hab hj hw
    have hB : bdOk hp 3 V T := bdOk_fr hB0 (bFx_n hF (by simp)) (fun i => bFx_n hF (by simp)) (fun i => bFx_n hF (by simp))
    have hL : lsN hp 3 T 225 := lsN_fr hL0 (bFx_n hF (by simp)) (fun i => bFx_n hF (by simp)) (fun i => bFx_n hF (by simp))
    have h15 : V ≤ 15 := hB.2.1.2.1
    have b0 : rN hp 3 0 = (V : Int) := hB.1
    have e := prT_row (V := V) (a := a) (b := b) (f := pfN V T) h15 (by omega)
    refine xild 34 ⟨u148, _, rfl⟩ rfl rfl ?_
    refine xald 35 ⟨u148, _, rfl⟩ rfl rfl ?_
    refine xgetD 38 (3) hH ⟨u148, _, rfl⟩ rfl (by decide) (by decide) rfl rfl (by decide) ?_
    refine xgetC 41 hH ⟨u148, _, rfl⟩ rfl (by decide) (by decide) rfl rfl (by decide) (fun z38 h38 => ?_)
    refine xcmp_ge 44 ⟨u148, _, rfl⟩ rfl (fun c41 => ?_) (fun c41 => ?_)
    · exact hQ _ _ _ hH hF (by rw [e]; exact hw)
    · omega
  | succ jj ih =>
    intro b w wb hp hH hF hb hab hj hw
    have hB : bdOk hp 3 V T := bdOk_fr hB0 (bFx_n hF (by simp)) (fun i => bFx_n hF (by simp)) (fun i => bFx_n hF (by simp))
    have hL : lsN hp 3 T 225 := lsN_fr hL0 (bFx_n hF (by simp)) (fun i => bFx_n hF (by simp)) (fun i => bFx_n hF (by simp))
    have h15 : V ≤ 15 := hB.2.1.2.1
    have b0 : rN hp 3 0 = (V : Int) := hB.1
    have s1 := prT_s (V := V) (a := a) (b := b) (f := pfN V T) (by omega) ⟨hab, by omega⟩
    have le1 := prT_le (V := V) (c := 1) (f := pfN V T) (fun _ _ => pfN_1) (15 * a + b)
    have le2 := pfN_1 (V := V) (T := T) a b
    refine xild 34 ⟨u148, _, rfl⟩ rfl rfl ?_
    refine xald 35 ⟨u148, _, rfl⟩ rfl rfl ?_
    refine xgetD 38 (3) hH ⟨u148, _, rfl⟩ rfl (by decide) (by decide) rfl rfl (by decide) ?_
    refine xgetC 41 hH ⟨u148, _, rfl⟩ rfl (by decide) (by decide) rfl rfl (by decide) (fun z38 h38 => ?_)
    refine xcmp_ge 44 ⟨u148, _, rfl⟩ rfl (fun c41 => ?_) (fun c41 => ?_)
    · omega
    · refine xald 45 ⟨u148, _, rfl⟩ rfl rfl ?_
      refine xild 46 ⟨u148, _, rfl⟩ rfl rfl ?_
      refine xild 47 ⟨u148, _, rfl⟩ rfl rfl ?_
      refine xcallC 50 (o := 0) [.int _, .int _] [] hH ⟨u148, _, rfl⟩ rfl rfl (by decide) rfl (by decide) rfl ⟨rfl, rfl, rfl, rfl⟩ rfl (k_189E hH hB hL (a := a) (b := b) ha hb aV (by omega) (by omega) (fun z47 hp47 hH47 F47 h47 => ⟨_, rfl, ?_⟩))
      refine xif_eq 53 ⟨u148, _, rfl⟩ rfl (fun c50 => ?_) (fun c50 => ?_)
      · refine xinc 59 (1) ⟨u148, _, rfl⟩ rfl rfl rfl (by decide) (by omega) (by omega) (fun z56 h56 => ?_)
        refine xgoto ⟨u148, _, rfl⟩ ?_
        exact ih (b + 1) _ _ hp47 hH47 (hF.trans F47) (by omega) (by omega) (by omega) (by rw [s1]; omega)
      · refine xinc 56 (1) ⟨u148, _, rfl⟩ rfl rfl rfl (by decide) (by omega) (by omega) (fun z53 h53 => ?_)
        refine xinc 59 (1) ⟨u148, _, rfl⟩ rfl rfl rfl (by decide) (by omega) (by omega) (fun z56 h56 => ?_)
        refine xgoto ⟨u148, _, rfl⟩ ?_
        exact ih (b + 1) _ _ hp47 hH47 (hF.trans F47) (by omega) (by omega) (by omega) (by rw [s1]; omega)
theorem l148o {d V : Nat} {T : sT} {hp0 : amH} {R : xQ} (hB0 : bdOk hp0 3 V T) (hL0 : lsN hp0 3 T 225)
    (hR : ∀ (z : Int32) (hp : amH), bHk 84 bTT hp → bFx [52, 53, 54, 55] hp0 hp → z.toInt = ((prT V (pfN V T) 225 : Nat) : Int) → R (.inl (some (.int z))) hp) :
    ∀ (jj a : Nat) (w wa : Int32) (v3 : Option Value) (hp : amH), bHk 84 bTT hp → bFx [52, 53, 54, 55] hp0 hp → wa.toInt = (a : Int) → a + jj = V → w.toInt = ((prT V (pfN V T) (15 * a) : Nat) : Int) → xV (d + 5) am_m148 18 [some (.ref 0), some (.int w), some (.int wa), v3] [] hp R := by
  intro jj
  induction jj with
  | zero =>
    intro a w wa v3 hp hH hF ha hj hw
    have hB : bdOk hp 3 V T := bdOk_fr hB0 (bFx_n hF (by simp)) (fun i => bFx_n hF (by simp)) (fun i => bFx_n hF (by simp))
    have hL : lsN hp 3 T 225 := lsN_fr hL0 (bFx_n hF (by simp)) (fun i => bFx_n hF (by simp)) (fun i => bFx_n hF (by simp))
    have h15 : V ≤ 15 := hB.2.1.2.1
    have b0 : rN hp 3 0 = (V : Int) := hB.1
    have e := prT_end (V := V) (a := a) (f := pfN V T) h15 (by omega)
    refine xild 19 ⟨u148, _, rfl⟩ rfl rfl ?_
    refine xald 20 ⟨u148, _, rfl⟩ rfl rfl ?_
    refine xgetD 23 (3) hH ⟨u148, _, rfl⟩ rfl (by decide) (by decide) rfl rfl (by decide) ?_
    refine xgetC 26 hH ⟨u148, _, rfl⟩ rfl (by decide) (by decide) rfl rfl (by decide) (fun z23 h23 => ?_)
    refine xcmp_ge 29 ⟨u148, _, rfl⟩ rfl (fun c26 => ?_) (fun c26 => ?_)
    · refine xild 69 ⟨u148, _, rfl⟩ rfl rfl ?_
      exact xret ⟨u148, _, rfl⟩ rfl (hR _ _ hH hF (by rw [e]; exact hw))
    · omega
  | succ jj ih =>
    intro a w wa v3 hp hH hF ha hj hw
    have hB : bdOk hp 3 V T := bdOk_fr hB0 (bFx_n hF (by simp)) (fun i => bFx_n hF (by simp)) (fun i => bFx_n hF (by simp))
    have hL : lsN hp 3 T 225 := lsN_fr hL0 (bFx_n hF (by simp)) (fun i => bFx_n hF (by simp)) (fun i => bFx_n hF (by simp))
    have h15 : V ≤ 15 := hB.2.1.2.1
    have b0 : rN hp 3 0 = (V : Int) := hB.1
    have eb := prT_beg (V := V) (a := a) (f := pfN V T)
    refine xild 19 ⟨u148, _, rfl⟩ rfl rfl ?_
    refine xald 20 ⟨u148, _, rfl⟩ rfl rfl ?_
    refine xgetD 23 (3) hH ⟨u148, _, rfl⟩ rfl (by decide) (by decide) rfl rfl (by decide) ?_
    refine xgetC 26 hH ⟨u148, _, rfl⟩ rfl (by decide) (by decide) rfl rfl (by decide) (fun z23 h23 => ?_)
    refine xcmp_ge 29 ⟨u148, _, rfl⟩ rfl (fun c26 => ?_) (fun c26 => ?_)
    · omega
    · refine xild 30 ⟨u148, _, rfl⟩ rfl rfl ?_
      refine xcst 31 (1) ⟨u148, _, rfl⟩ rfl (by decide) (fun z30 h30 => ?_)
      refine xadd 32 _ ⟨u148, _, rfl⟩ rfl rfl (by omega) (by omega) (fun z31 h31 => ?_)
      refine xist 33 ⟨u148, _, rfl⟩ rfl rfl ?_
      refine l148i hB0 hL0 ha (by omega) (fun x1 xb hp9 g0 g1 r1 => ?_) (V - (a + 1)) (a + 1) _ _ _ hH hF (by omega) (by omega) (by omega) (by rw [eb]; exact hw)
      refine xinc 65 (1) ⟨u148, _, rfl⟩ rfl rfl rfl (by decide) (by omega) (by omega) (fun z62 h62 => ?_)
      refine xgoto ⟨u148, _, rfl⟩ ?_
      exact ih (a + 1) _ _ _ _ g0 g1 (by omega) (by omega) r1
theorem k_148E {d V n : Nat} {h : Nat → sR} {sv : Option sR} {T : sT} {ty : Nat → Int} {hp : amH} {R : xQ} (hH : bHk 84 bTT hp) (hS : clS hp (V, T, ty) n h sv)
    (hR : ∀ (z : Int32) hp1, bHk 84 bTT hp1 → cF hp hp1 → clS hp1 (V, T, ty) n h sv → z.toInt = ((pfV V T : Nat) : Int) → R (.inl (some (.int z))) hp1) : xK (d + 6) 148 [.ref 0] hp R := by
  have hB : bdOk hp 3 V T := hS.1
  have b0 : rN hp 3 0 = (V : Int) := hB.1
  have hL : lsN hp 3 T 225 := hS.2.1
  have b1 : rN hp 3 1 = (((trL T 225).length : Nat) : Int) := hL.1
  have hT0 : sOk V T := hB.2.1
  have h15 : V ≤ 15 := hT0.2.1
  have l35 : (trL T 225).length ≤ 35 := trL_35 hT0 225
  have nq0 : rN hp 49 0 = ((nQ T : Nat) : Int) := hS.2.2.1.1
  refine xin (M := am_m148) rfl rfl rfl ?_
  refine xald 1 ⟨u148, _, rfl⟩ rfl rfl ?_
  refine xgetD 4 (3) hH ⟨u148, _, rfl⟩ rfl (by decide) (by decide) rfl rfl (by decide) ?_
  refine xgetC 7 hH ⟨u148, _, rfl⟩ rfl (by decide) (by decide) rfl rfl (by decide) (fun z4 h4 => ?_)
  refine xbip 9 (7) ⟨u148, _, rfl⟩ rfl (by decide) (fun z7 h7 => ?_)
  refine xcmp_ge 12 ⟨u148, _, rfl⟩ rfl (fun c9 => ?_) (fun c9 => ?_)
  · refine xcst 15 (0) ⟨u148, _, rfl⟩ rfl (by decide) (fun z14 h14 => ?_)
    refine xist 16 ⟨u148, _, rfl⟩ rfl rfl ?_
    refine xcst 17 (0) ⟨u148, _, rfl⟩ rfl (by decide) (fun z16 h16 => ?_)
    refine xist 18 ⟨u148, _, rfl⟩ rfl rfl ?_
    refine xpad 1 ?_
    exact l148o hB hL (fun z hp1 g1 g2 g3 => hR z hp1 g1 (cF_x g2 (by simp)) (clS_8 hS (fun c k hc => g2 c k (by simp; omega))) (by unfold pfV; rw [if_neg (by omega)]; exact g3)) V 0 _ _ _ hp hH bFx.refl h16 (by omega) h14
  · refine xcst 13 (0) ⟨u148, _, rfl⟩ rfl (by decide) (fun z12 h12 => ?_)
    exact xret ⟨u148, _, rfl⟩ rfl (hR _ _ hH cF.refl hS (by unfold pfV; rw [if_pos (by omega)]; exact h12))
theorem u305 : bUp 0 am_m305.1 = true := by decide +kernel
theorem l305E {d a b V : Nat} {T : sT} {hp0 : amH} {R : xQ} {wa wb wo : Int32} (hB0 : rdOk hp0 V T) (ha : wa.toInt = (a : Int)) (hb : wb.toInt = (b : Int)) (aV : a < V) (bV : b < V) (hab : ¬ a = b) (ho : wo.toInt + 2 + ((iv (¬ T a b = -1) : Nat) : Int) = (V : Int))
    (hR : ∀ (z : Int32) (hp : amH), bHk 84 bTT hp → bFr wWkE hp0 hp → z.toInt = ((pfN V T a b : Nat) : Int) → R (.inl (some (.int z))) hp) :
    ∀ (jj x : Nat) (w wx : Int32) (hp : amH), bHk 84 bTT hp → bFr wWkE hp0 hp → wx.toInt = (x : Int) → x + jj = V → ((w.toInt = 1 ∧ pfB V T a b = true) ∨ (w.toInt = 0 ∧ ∀ y, y < x → ¬ (cyB T a b y = true ∧ cyL T a b y + 2 + iv (¬ T a b = -1) = V))) → xV (d + 3) am_m305 20 [some (.ref 66), some (.int wa), some (.int wb), some (.int wo), some (.int w), some (.int wx)] [] hp R := by
  intro jj
  induction jj with
  | zero =>
    intro x w wx hp hH hF hx hj hw
    have hB : rdOk hp V T := rdOk_fr hB0 (fun i => r_fr hF rfl)
    have h15 : V ≤ 15 := hB.2.1.2.1
    have b0 : rN hp 67 0 = (V : Int) := hB.1
    obtain rfl : x = V := by omega
    refine xild2 22 ⟨u305, _, rfl⟩ rfl rfl ?_
    refine xald 23 ⟨u305, _, rfl⟩ rfl rfl ?_
    refine xcall 26 [.ref 66] [.int _] hH ⟨u305, _, rfl⟩ rfl rfl rfl rfl rfl (k_points hH (fun z23 h23 => ⟨_, rfl, ?_⟩))
    refine xcmp_ge 29 ⟨u305, _, rfl⟩ rfl (fun c26 => ?_) (fun c26 => ?_)
    · refine xild2 68 ⟨u305, _, rfl⟩ rfl rfl ?_
      rcases hw with ⟨hw, he⟩ | ⟨hw, he⟩
      · exact xretB ⟨u305, _, rfl⟩ rfl (Or.inr hw) (hR _ _ hH hF (by unfold pfN; rw [iv_t he]; exact hw))
      · exact xretB ⟨u305, _, rfl⟩ rfl (Or.inl hw) (hR _ _ hH hF (by
          unfold pfN
          rw [iv_f (fun z => by
            obtain ⟨y, y1, y2, y3⟩ := pfB_t.mp z
            exact he y y1 ⟨y2, y3⟩)]
          exact hw))
    · omega
  | succ jj ih =>
    intro x w wx hp hH hF hx hj hw
    have hB : rdOk hp V T := rdOk_fr hB0 (fun i => r_fr hF rfl)
    have h15 : V ≤ 15 := hB.2.1.2.1
    have b0 : rN hp 67 0 = (V : Int) := hB.1
    refine xild2 22 ⟨u305, _, rfl⟩ rfl rfl ?_
    refine xald 23 ⟨u305, _, rfl⟩ rfl rfl ?_
    refine xcall 26 [.ref 66] [.int _] hH ⟨u305, _, rfl⟩ rfl rfl rfl rfl rfl (k_points hH (fun z23 h23 => ⟨_, rfl, ?_⟩))
    refine xcmp_ge 29 ⟨u305, _, rfl⟩ rfl (fun c26 => ?_) (fun c26 => ?_)
    · omega
    · refine xild2 31 ⟨u305, _, rfl⟩ rfl rfl ?_
      refine xif_ne 34 ⟨u305, _, rfl⟩ rfl (fun c31 => ?_) (fun c31 => ?_)
      · have w1 : pfB V T a b = true := by
          rcases hw with ⟨-, he⟩ | ⟨hw, -⟩
          · exact he
          · omega
        refine xcst 54 (1) ⟨u305, _, rfl⟩ rfl (by decide) (fun z53 h53 => ?_)
        refine xgoto ⟨u305, _, rfl⟩ ?_
        refine xist2 60 ⟨u305, _, rfl⟩ rfl rfl ?_
        refine xinc 63 (1) ⟨u305, _, rfl⟩ rfl rfl rfl (by decide) (by omega) (by omega) (fun z60 h60 => ?_)
        refine xgoto ⟨u305, _, rfl⟩ ?_
        exact ih (x + 1) _ _ hp hH hF (by omega) (by omega) (Or.inl ⟨by omega, w1⟩)
      · refine xald 35 ⟨u305, _, rfl⟩ rfl rfl ?_
        refine xild 36 ⟨u305, _, rfl⟩ rfl rfl ?_
        refine xild 37 ⟨u305, _, rfl⟩ rfl rfl ?_
        refine xild2 39 ⟨u305, _, rfl⟩ rfl rfl ?_
        refine xcall 42 [.ref 66, .int _, .int _, .int _] [] hH ⟨u305, _, rfl⟩ rfl rfl rfl rfl rfl (k_226E hH hB ha hb aV bV hx (by omega) (fun z39 hp39 hH39 F39 h39 m39 => ⟨_, rfl, ?_⟩))
        have b39 : (z39.toInt = 1 ∧ cyB T a b x = true) ∨ (z39.toInt = 0 ∧ ¬ cyB T a b x = true) := by
          by_cases q : cyB T a b x = true
          · left; rw [h39, if_pos q]; exact ⟨rfl, q⟩
          · right; rw [h39, if_neg q]; exact ⟨rfl, q⟩
        refine xif_eq 45 ⟨u305, _, rfl⟩ rfl (fun c42 => ?_) (fun c42 => ?_)
        · have nx : ¬ (cyB T a b x = true ∧ cyL T a b x + 2 + iv (¬ T a b = -1) = V) := fun z => by
            rcases b39 with ⟨q, -⟩ | ⟨-, q⟩
            · omega
            · exact q z.1
          refine xcst 58 (0) ⟨u305, _, rfl⟩ rfl (by decide) (fun z57 h57 => ?_)
          refine xist2 60 ⟨u305, _, rfl⟩ rfl rfl ?_
          refine xinc 63 (1) ⟨u305, _, rfl⟩ rfl rfl rfl (by decide) (by omega) (by omega) (fun z60 h60 => ?_)
          refine xgoto ⟨u305, _, rfl⟩ ?_
          refine ih (x + 1) _ _ hp39 hH39 (hF.trans F39) (by omega) (by omega) (Or.inr ⟨by omega, fun y hy => ?_⟩)
          rcases hw with ⟨hw, -⟩ | ⟨hw, he⟩
          · omega
          by_cases g : y = x
          · subst g; exact nx
          · exact he y (by omega)
        · have q1 : cyB T a b x = true := by
            rcases b39 with ⟨-, q⟩ | ⟨q, -⟩
            · exact q
            · omega
          have q2 := (m39 q1).1
          refine xald 46 ⟨u305, _, rfl⟩ rfl rfl ?_
          refine xgetI 49 hH39 ⟨u305, _, rfl⟩ rfl rfl (fun z46 h46 => ?_)
          refine xild 50 ⟨u305, _, rfl⟩ rfl rfl ?_
          refine xcmp_ne 53 ⟨u305, _, rfl⟩ rfl (fun c50 => ?_) (fun c50 => ?_)
          · have nx : ¬ (cyB T a b x = true ∧ cyL T a b x + 2 + iv (¬ T a b = -1) = V) := fun z => by have := z.2; omega
            refine xcst 58 (0) ⟨u305, _, rfl⟩ rfl (by decide) (fun z57 h57 => ?_)
            refine xist2 60 ⟨u305, _, rfl⟩ rfl rfl ?_
            refine xinc 63 (1) ⟨u305, _, rfl⟩ rfl rfl rfl (by decide) (by omega) (by omega) (fun z60 h60 => ?_)
            refine xgoto ⟨u305, _, rfl⟩ ?_
            refine ih (x + 1) _ _ hp39 hH39 (hF.trans F39) (by omega) (by omega) (Or.inr ⟨by omega, fun y hy => ?_⟩)
            rcases hw with ⟨hw, -⟩ | ⟨hw, he⟩
            · omega
            by_cases g : y = x
            · subst g; exact nx
            · exact he y (by omega)
          · have yx : pfB V T a b = true := pfB_t.mpr ⟨x, by omega, q1, by omega⟩
            refine xcst 54 (1) ⟨u305, _, rfl⟩ rfl (by decide) (fun z53 h53 => ?_)
            refine xgoto ⟨u305, _, rfl⟩ ?_
            refine xist2 60 ⟨u305, _, rfl⟩ rfl rfl ?_
            refine xinc 63 (1) ⟨u305, _, rfl⟩ rfl rfl rfl (by decide) (by omega) (by omega) (fun z60 h60 => ?_)
            refine xgoto ⟨u305, _, rfl⟩ ?_
            exact ih (x + 1) _ _ hp39 hH39 (hF.trans F39) (by omega) (by omega) (Or.inl ⟨by omega, yx⟩)
theorem k_305E {d V a b : Nat} {T : sT} {hp : amH} {R : xQ} {wa wb : Int32} (hH : bHk 84 bTT hp) (hB : rdOk hp V T) (ha : wa.toInt = (a : Int)) (hb : wb.toInt = (b : Int)) (aV : a < V) (bV : b < V) (hab : ¬ a = b)
    (hR : ∀ (z : Int32) hp1, bHk 84 bTT hp1 → bFr wWkE hp hp1 → z.toInt = ((pfN V T a b : Nat) : Int) → R (.inl (some (.int z))) hp1) : xK (d + 3) 305 [.ref 66, .int wa, .int wb] hp R := by
  have h15 : V ≤ 15 := hB.2.1.2.1
  have b0 : rN hp 67 0 = (V : Int) := hB.1
  have et : tT hp a b = T a b := hB.2.2.1 a b (by omega) (by omega)
  have iv1 : iv (¬ T a b = -1) ≤ 1 := iv_le
  refine xin (M := am_m305) rfl rfl rfl ?_
  refine xald 1 ⟨u305, _, rfl⟩ rfl rfl ?_
  refine xcall 4 [.ref 66] [] hH ⟨u305, _, rfl⟩ rfl rfl rfl rfl rfl (k_points hH (fun z1 h1 => ⟨_, rfl, ?_⟩))
  refine xcst 5 (2) ⟨u305, _, rfl⟩ rfl (by decide) (fun z4 h4 => ?_)
  refine xsub 6 _ ⟨u305, _, rfl⟩ rfl rfl (by omega) (by omega) (fun z5 h5 => ?_)
  refine xald 7 ⟨u305, _, rfl⟩ rfl rfl ?_
  refine xild 8 ⟨u305, _, rfl⟩ rfl rfl ?_
  refine xild 9 ⟨u305, _, rfl⟩ rfl rfl ?_
  refine xcall 12 [.ref 66, .int _, .int _] [.int _] hH ⟨u305, _, rfl⟩ rfl rfl rfl rfl rfl (k_cov hH (by omega) (by omega) (by omega) (by omega) (fun z9 h9 => ⟨_, rfl, ?_⟩))
  have e9 : z9.toInt = ((iv (¬ T a b = -1) : Nat) : Int) := by
    rw [h9, show wa.toInt.toNat = a by omega, show wb.toInt.toNat = b by omega]
    unfold cv
    rw [et]
    by_cases g : T a b = -1
    · rw [if_pos g, iv_f (fun z => z g)]; rfl
    · rw [if_neg g, iv_t g]; rfl
  refine xsub 13 _ ⟨u305, _, rfl⟩ rfl rfl (by omega) (by omega) (fun z12 h12 => ?_)
  refine xist 14 ⟨u305, _, rfl⟩ rfl rfl ?_
  refine xcst 15 (0) ⟨u305, _, rfl⟩ rfl (by decide) (fun z14 h14 => ?_)
  refine xist2 17 ⟨u305, _, rfl⟩ rfl rfl ?_
  refine xcst 18 (0) ⟨u305, _, rfl⟩ rfl (by decide) (fun z17 h17 => ?_)
  refine xist2 20 ⟨u305, _, rfl⟩ rfl rfl ?_
  exact l305E hB ha hb aV bV hab (by omega) hR V 0 _ _ _ hH (bFr.refl _ _) h17 (by omega) (Or.inr ⟨h14, fun y hy => absurd hy (Nat.not_lt_zero y)⟩)
theorem u306 : bUp 0 am_m306.1 = true := by decide +kernel
theorem l306i {d a V : Nat} {T : sT} {hp0 : amH} {R : xQ} {wa : Int32} (hB0 : rdOk hp0 V T) (ha : wa.toInt = (a : Int)) (aV : a < V)
    (hQ : ∀ (w wb : Int32) (hp : amH), bHk 84 bTT hp → bFr wWkE hp0 hp → w.toInt = ((prT V (pfN V T) (15 * (a + 1)) : Nat) : Int) → xV (d + 4) am_m306 61 [some (.ref 66), some (.int w), some (.int wa), some (.int wb)] [] hp R) :
    ∀ (jj b : Nat) (w wb : Int32) (hp : amH), bHk 84 bTT hp → bFr wWkE hp0 hp → wb.toInt = (b : Int) → a < b → b + jj = V → w.toInt = ((prT V (pfN V T) (15 * a + b) : Nat) : Int) → xV (d + 4) am_m306 30 [some (.ref 66), some (.int w), some (.int wa), some (.int wb)] [] hp R := by
  intro jj
  induction jj with
  | zero =>
    intro b w wb hp hH hF hb hab hj hw
    have hB : rdOk hp V T := rdOk_fr hB0 (fun i => r_fr hF rfl)
    have h15 : V ≤ 15 := hB.2.1.2.1
    have b0 : rN hp 67 0 = (V : Int) := hB.1
    have e := prT_row (V := V) (a := a) (b := b) (f := pfN V T) h15 (by omega)
    refine xild 31 ⟨u306, _, rfl⟩ rfl rfl ?_
    refine xald 32 ⟨u306, _, rfl⟩ rfl rfl ?_
    refine xcall 35 [.ref 66] [.int _] hH ⟨u306, _, rfl⟩ rfl rfl rfl rfl rfl (k_points hH (fun z32 h32 => ⟨_, rfl, ?_⟩))
    refine xcmp_ge 38 ⟨u306, _, rfl⟩ rfl (fun c35 => ?_) (fun c35 => ?_)
    · exact hQ _ _ _ hH hF (by rw [e]; exact hw)
    · omega
  | succ jj ih =>
    intro b w wb hp hH hF hb hab hj hw
    have hB : rdOk hp V T := rdOk_fr hB0 (fun i => r_fr hF rfl)
    have h15 : V ≤ 15 := hB.2.1.2.1
    have b0 : rN hp 67 0 = (V : Int) := hB.1
    have s1 := prT_s (V := V) (a := a) (b := b) (f := pfN V T) (by omega) ⟨hab, by omega⟩
    have le1 := prT_le (V := V) (c := 1) (f := pfN V T) (fun _ _ => pfN_1) (15 * a + b)
    have le2 := pfN_1 (V := V) (T := T) a b
    refine xild 31 ⟨u306, _, rfl⟩ rfl rfl ?_
    refine xald 32 ⟨u306, _, rfl⟩ rfl rfl ?_
    refine xcall 35 [.ref 66] [.int _] hH ⟨u306, _, rfl⟩ rfl rfl rfl rfl rfl (k_points hH (fun z32 h32 => ⟨_, rfl, ?_⟩))
    refine xcmp_ge 38 ⟨u306, _, rfl⟩ rfl (fun c35 => ?_) (fun c35 => ?_)
    · omega
    · refine xild 39 ⟨u306, _, rfl⟩ rfl rfl ?_
      refine xald 40 ⟨u306, _, rfl⟩ rfl rfl ?_
      refine xild 41 ⟨u306, _, rfl⟩ rfl rfl ?_
      refine xild 42 ⟨u306, _, rfl⟩ rfl rfl ?_
      refine xcall 45 [.ref 66, .int _, .int _] [.int _] hH ⟨u306, _, rfl⟩ rfl rfl rfl rfl rfl (k_305E hH hB (a := a) (b := b) ha hb aV (by omega) (by omega) (fun z42 hp42 hH42 F42 h42 => ⟨_, rfl, ?_⟩))
      refine xif_eq 48 ⟨u306, _, rfl⟩ rfl (fun c45 => ?_) (fun c45 => ?_)
      · refine xcst 53 (0) ⟨u306, _, rfl⟩ rfl (by decide) (fun z52 h52 => ?_)
        refine xadd 54 _ ⟨u306, _, rfl⟩ rfl rfl (by omega) (by omega) (fun z53 h53 => ?_)
        refine xist 55 ⟨u306, _, rfl⟩ rfl rfl ?_
        refine xinc 58 (1) ⟨u306, _, rfl⟩ rfl rfl rfl (by decide) (by omega) (by omega) (fun z55 h55 => ?_)
        refine xgoto ⟨u306, _, rfl⟩ ?_
        exact ih (b + 1) _ _ hp42 hH42 (hF.trans F42) (by omega) (by omega) (by omega) (by rw [s1]; omega)
      · refine xcst 49 (1) ⟨u306, _, rfl⟩ rfl (by decide) (fun z48 h48 => ?_)
        refine xgoto ⟨u306, _, rfl⟩ ?_
        refine xadd 54 _ ⟨u306, _, rfl⟩ rfl rfl (by omega) (by omega) (fun z53 h53 => ?_)
        refine xist 55 ⟨u306, _, rfl⟩ rfl rfl ?_
        refine xinc 58 (1) ⟨u306, _, rfl⟩ rfl rfl rfl (by decide) (by omega) (by omega) (fun z55 h55 => ?_)
        refine xgoto ⟨u306, _, rfl⟩ ?_
        exact ih (b + 1) _ _ hp42 hH42 (hF.trans F42) (by omega) (by omega) (by omega) (by rw [s1]; omega)
theorem l306o {d V : Nat} {T : sT} {hp0 : amH} {R : xQ} (hB0 : rdOk hp0 V T) (h7 : 7 ≤ V)
    (hR : ∀ (z : Int32) (hp : amH), bHk 84 bTT hp → bFr wWkE hp0 hp → z.toInt = ((prT V (pfN V T) 225 : Nat) : Int) → R (.inl (some (.int z))) hp) :
    ∀ (jj a : Nat) (w wa : Int32) (v3 : Option Value) (hp : amH), bHk 84 bTT hp → bFr wWkE hp0 hp → wa.toInt = (a : Int) → a + jj = V → w.toInt = ((prT V (pfN V T) (15 * a) : Nat) : Int) → xV (d + 4) am_m306 9 [some (.ref 66), some (.int w), some (.int wa), v3] [] hp R := by
  intro jj
  induction jj with
  | zero =>
    intro a w wa v3 hp hH hF ha hj hw
    have hB : rdOk hp V T := rdOk_fr hB0 (fun i => r_fr hF rfl)
    have h15 : V ≤ 15 := hB.2.1.2.1
    have b0 : rN hp 67 0 = (V : Int) := hB.1
    have e := prT_end (V := V) (a := a) (f := pfN V T) h15 (by omega)
    refine xild 10 ⟨u306, _, rfl⟩ rfl rfl ?_
    refine xald 11 ⟨u306, _, rfl⟩ rfl rfl ?_
    refine xcall 14 [.ref 66] [.int _] hH ⟨u306, _, rfl⟩ rfl rfl rfl rfl rfl (k_points hH (fun z11 h11 => ⟨_, rfl, ?_⟩))
    refine xcmp_ge 17 ⟨u306, _, rfl⟩ rfl (fun c14 => ?_) (fun c14 => ?_)
    · refine xild 68 ⟨u306, _, rfl⟩ rfl rfl ?_
      exact xret ⟨u306, _, rfl⟩ rfl (hR _ _ hH hF (by rw [e]; exact hw))
    · omega
  | succ jj ih =>
    intro a w wa v3 hp hH hF ha hj hw
    have hB : rdOk hp V T := rdOk_fr hB0 (fun i => r_fr hF rfl)
    have h15 : V ≤ 15 := hB.2.1.2.1
    have b0 : rN hp 67 0 = (V : Int) := hB.1
    have eb := prT_beg (V := V) (a := a) (f := pfN V T)
    refine xild 10 ⟨u306, _, rfl⟩ rfl rfl ?_
    refine xald 11 ⟨u306, _, rfl⟩ rfl rfl ?_
    refine xcall 14 [.ref 66] [.int _] hH ⟨u306, _, rfl⟩ rfl rfl rfl rfl rfl (k_points hH (fun z11 h11 => ⟨_, rfl, ?_⟩))
    refine xcmp_ge 17 ⟨u306, _, rfl⟩ rfl (fun c14 => ?_) (fun c14 => ?_)
    · omega
    · refine xald 18 ⟨u306, _, rfl⟩ rfl rfl ?_
      refine xcall 21 [.ref 66] [] hH ⟨u306, _, rfl⟩ rfl rfl rfl rfl rfl (k_points hH (fun z18 h18 => ⟨_, rfl, ?_⟩))
      refine xbip 23 (6) ⟨u306, _, rfl⟩ rfl (by decide) (fun z21 h21 => ?_)
      refine xcmp_le 26 ⟨u306, _, rfl⟩ rfl (fun c23 => ?_) (fun c23 => ?_)
      · omega
      · refine xild 27 ⟨u306, _, rfl⟩ rfl rfl ?_
        refine xcst 28 (1) ⟨u306, _, rfl⟩ rfl (by decide) (fun z27 h27 => ?_)
        refine xadd 29 _ ⟨u306, _, rfl⟩ rfl rfl (by omega) (by omega) (fun z28 h28 => ?_)
        refine xist 30 ⟨u306, _, rfl⟩ rfl rfl ?_
        refine l306i hB0 ha (by omega) (fun x1 xb hp9 g0 g1 r1 => ?_) (V - (a + 1)) (a + 1) _ _ _ hH hF (by omega) (by omega) (by omega) (by rw [eb]; exact hw)
        refine xinc 64 (1) ⟨u306, _, rfl⟩ rfl rfl rfl (by decide) (by omega) (by omega) (fun z61 h61 => ?_)
        refine xgoto ⟨u306, _, rfl⟩ ?_
        exact ih (a + 1) _ _ _ _ g0 g1 (by omega) (by omega) r1
theorem k_306E {d V n : Nat} {h : Nat → sR} {sv : Option sR} {T : sT} {ty : Nat → Int} {hp : amH} {R : xQ} (hH : bHk 84 bTT hp) (hP : P0 hp) (hS : rfS hp (V, T, ty) n h sv)
    (hR : ∀ (z : Int32) hp1, bHk 84 bTT hp1 → P0 hp1 → bFr wM hp hp1 → rfS hp1 (V, T, ty) n h sv → z.toInt = ((pfV V T : Nat) : Int) → R (.inl (some (.int z))) hp1) : xK (d + 6) 306 [.ref 66] hp R := by
  have hB : rdOk hp V T := rowOk_rd hS.1
  have b0 : rN hp 67 0 = (V : Int) := hB.1
  have hT0 : sOk V T := hB.2.1
  have h15 : V ≤ 15 := hT0.2.1
  have l35 : (trL T 225).length ≤ 35 := trL_35 hT0 225
  have h3 : 3 ≤ V := hT0.1
  refine xin (M := am_m306) rfl rfl rfl ?_
  refine xald 1 ⟨u306, _, rfl⟩ rfl rfl ?_
  refine xcst 2 (0) ⟨u306, _, rfl⟩ rfl (by decide) (fun z1 h1 => ?_)
  refine xputI 5 hH ⟨u306, _, rfl⟩ rfl rfl ⟨rfl, rfl⟩ (by omega) (by omega) (fun hp2 hH2 U2 => ?_)
  have s2 := U2.1
  have S2 := rfS_W (W := [(66, 7)]) hS (rU_fr U2 rfl) (fun _ => rfl) rfl rfl (fun _ => rfl) (fun _ => rfl)
  have P2 := P0_W (W := [(66, 7)]) (by decide) (rU_fr U2 rfl) hP
  have b2 : rN hp2 67 0 = (V : Int) := (rowOk_rd S2.1).1
  refine xcst 6 (0) ⟨u306, _, rfl⟩ rfl (by decide) (fun z5 h5 => ?_)
  refine xist 7 ⟨u306, _, rfl⟩ rfl rfl ?_
  refine xcst 8 (0) ⟨u306, _, rfl⟩ rfl (by decide) (fun z7 h7 => ?_)
  refine xist 9 ⟨u306, _, rfl⟩ rfl rfl ?_
  by_cases h7' : 7 ≤ V
  · refine xpad 1 ?_
    exact l306o (show rdOk hp2 V T from rowOk_rd S2.1) h7' (fun z hp1 g1 g2 g3 => hR z hp1 g1 (P0_W (W := wWkE) (by decide) g2 P2) ((rU_fr U2 (by decide)).trans (bFr_sub g2 (by decide))) (rfS_W S2 g2 (fun _ => rfl) rfl rfl (fun _ => rfl) (fun _ => rfl)) (by unfold pfV; rw [if_neg (by omega)]; exact g3)) V 0 _ _ _ hp2 hH2 (bFr.refl _ _) h7 (by omega) h5
  · refine xild 10 ⟨u306, _, rfl⟩ rfl rfl ?_
    refine xald 11 ⟨u306, _, rfl⟩ rfl rfl ?_
    refine xcall 14 [.ref 66] [.int _] hH2 ⟨u306, _, rfl⟩ rfl rfl rfl rfl rfl (k_points hH2 (fun z11 h11 => ⟨_, rfl, ?_⟩))
    refine xcmp_ge 17 ⟨u306, _, rfl⟩ rfl (fun c14 => ?_) (fun c14 => ?_)
    · omega
    · refine xald 18 ⟨u306, _, rfl⟩ rfl rfl ?_
      refine xcall 21 [.ref 66] [] hH2 ⟨u306, _, rfl⟩ rfl rfl rfl rfl rfl (k_points hH2 (fun z18 h18 => ⟨_, rfl, ?_⟩))
      refine xbip 23 (6) ⟨u306, _, rfl⟩ rfl (by decide) (fun z21 h21 => ?_)
      refine xcmp_le 26 ⟨u306, _, rfl⟩ rfl (fun c23 => ?_) (fun c23 => ?_)
      · refine xild 68 ⟨u306, _, rfl⟩ rfl rfl ?_
        exact xret ⟨u306, _, rfl⟩ rfl (hR _ hp2 hH2 P2 (rU_fr U2 (by decide)) S2 (by unfold pfV; rw [if_pos (by omega)]; exact h5))
      · omega
end
/-! ##### q39 ##### -/
section
/-! ===== train on both sides ===== -/
theorem sm_eq0 {f : Nat → Nat} : ∀ {n : Nat}, sm f n = 0 → ∀ i, i < n → f i = 0
  | n + 1, h, i, hi => by
    have e : sm f (n + 1) = sm f n + f n := rfl
    by_cases g : i = n
    · subst g; omega
    · exact sm_eq0 (n := n) (by omega) i (by omega)
/-- each pair of a complete system is covered -/
theorem cm_T {V : Nat} {T : sT} (hT : sOk V T) (h : opC V T = 0) {u v : Nat} (hu : u < V) (hv : v < V) (huv : ¬ u = v) : ∃ w : Nat, T u v = (w : Int) ∧ w < V ∧ ¬ w = u ∧ ¬ w = v := by
  have h15 := hT.2.1
  have a := op_len hT
  have b := (op_half hT).1
  have c := sq_even ⟨V, by omega⟩
  have c : V * (V - 1) % 2 = 0 := c
  have d : sm (opI V T) V = 0 := by omega
  have e := sm_eq0 d u hu
  have f := sm_eq0 (f := fun i => iv (i < V ∧ ¬ u = i ∧ T u i = -1)) (n := 15) e v (by omega)
  have g : ¬ T u v = -1 := fun z => by
    rw [iv_t (p := v < V ∧ ¬ u = v ∧ T u v = -1) ⟨hv, huv, z⟩] at f
    omega
  obtain ⟨w, ew, -, -, k3, -, k5, k6, -, -⟩ := sOk_at hT rfl g
  exact ⟨w, ew, k3, fun z => k5 z.symm, fun z => k6 z.symm⟩
theorem th_inj {V : Nat} {T : sT} (hT : sOk V T) {a b c p : Nat} (h1 : T a c = (p : Int)) (h2 : T b c = (p : Int)) : a = b := by
  have k1 : T c a = (p : Int) := by rw [sy_T hT]; exact h1
  have k2 : T c b = (p : Int) := by rw [sy_T hT]; exact h2
  obtain ⟨k, e, -, -, -, -, -, -, -, q1⟩ := sOk_at hT k1 (by omega)
  obtain ⟨l, e2, -, -, -, -, -, -, -, q2⟩ := sOk_at hT k2 (by omega)
  obtain rfl : k = l := by omega
  have := q1.1.symm.trans q2.1
  omega
/-- a set's code: its points from the greatest on -/
def cod (a b c : Nat) : Nat := 256 * max a (max b c) + 16 * (a + b + c - max a (max b c) - min a (min b c)) + min a (min b c)
theorem cod_1 {a b c : Nat} : cod a b c = cod b a c := by unfold cod; omega
theorem cod_2 {a b c : Nat} : cod a b c = cod a c b := by unfold cod; omega
theorem cod_s {x y z : Nat} (h1 : x < y) (h2 : y < z) : cod x y z = 256 * z + 16 * y + x := by unfold cod; omega
theorem m3_1 {a b c : Nat} : m3 a b c = m3 b a c := by unfold m3; rw [Nat.or_comm (2 ^ a) (2 ^ b)]
theorem m3_2 {a b c : Nat} : m3 a b c = m3 a c b := by unfold m3; rw [Nat.or_assoc, Nat.or_comm (2 ^ b), ← Nat.or_assoc]
/-- where a set leads to -/
def nxV (T : sT) (a b c : Nat) : Nat := cod (T b c).toNat (T a c).toNat (T a b).toNat
theorem nxV_1 {V : Nat} {T : sT} (hT : sOk V T) {a b c : Nat} : nxV T a b c = nxV T b a c := by unfold nxV; rw [cod_1, sy_T hT a b]
theorem nxV_2 {V : Nat} {T : sT} (hT : sOk V T) {a b c : Nat} : nxV T a b c = nxV T a c b := by unfold nxV; rw [cod_2, sy_T hT b c]
/-- a set with its points in order -/
theorem set_s {a b c : Nat} (h1 : ¬ a = b) (h2 : ¬ b = c) (h3 : ¬ a = c) : ∃ x y z : Nat, x < y ∧ y < z ∧ (∀ p, (p = x ∨ p = y ∨ p = z) ↔ (p = a ∨ p = b ∨ p = c)) ∧ m3 a b c = m3 x y z ∧ cod a b c = cod x y z ∧ ∀ {V : Nat} {T : sT}, sOk V T → nxV T a b c = nxV T x y z := by
  by_cases g1 : a < b <;> by_cases g2 : b < c <;> by_cases g3 : a < c
  · exact ⟨a, b, c, g1, g2, fun _ => Iff.rfl, rfl, rfl, fun _ => rfl⟩
  · omega
  · exact ⟨a, c, b, g3, by omega, fun _ => by simp only [or_assoc, or_left_comm, or_comm], m3_2, cod_2, fun h => nxV_2 h⟩
  · exact ⟨c, a, b, by omega, g1, fun _ => by simp only [or_assoc, or_left_comm, or_comm], m3_2.trans m3_1, cod_2.trans cod_1, fun h => (nxV_2 h).trans (nxV_1 h)⟩
  · exact ⟨b, a, c, by omega, g3, fun _ => by simp only [or_assoc, or_left_comm, or_comm], m3_1, cod_1, fun h => nxV_1 h⟩
  · exact ⟨b, c, a, g2, by omega, fun _ => by simp only [or_assoc, or_left_comm, or_comm], m3_1.trans m3_2, cod_1.trans cod_2, fun h => (nxV_1 h).trans (nxV_2 h)⟩
  · omega
  · exact ⟨c, b, a, by omega, by omega, fun _ => by simp only [or_assoc, or_left_comm, or_comm], (m3_1.trans m3_2).trans m3_1, (cod_1.trans cod_2).trans cod_1, fun h => ((nxV_1 h).trans (nxV_2 h)).trans (nxV_1 h)⟩
/-- the three points to which a set leads -/
theorem nx_pts {V : Nat} {T : sT} (hT : sOk V T) (h : opC V T = 0) {x y z : Nat} (hx : x < V) (hy : y < V) (hz : z < V) (hxy : ¬ x = y) (hyz : ¬ y = z) (hxz : ¬ x = z) : ∃ p q r : Nat, T y z = (p : Int) ∧ T x z = (q : Int) ∧ T x y = (r : Int) ∧ p < V ∧ q < V ∧ r < V ∧ ¬ p = q ∧ ¬ q = r ∧ ¬ p = r := by
  obtain ⟨p, ep, lp, -, -⟩ := cm_T hT h hy hz hyz
  obtain ⟨q, eq, lq, -, -⟩ := cm_T hT h hx hz hxz
  obtain ⟨r, er, lr, -, -⟩ := cm_T hT h hx hy hxy
  refine ⟨p, q, r, ep, eq, er, lp, lq, lr, fun g => ?_, fun g => ?_, fun g => ?_⟩
  · subst g; exact hxy (th_inj hT eq ep)
  · subst g
    rw [sy_T hT] at eq er
    exact hyz (th_inj hT er eq)
  · subst g
    rw [sy_T hT] at ep
    exact hxz (th_inj hT er ep)
def gTn (V : Nat) (T : sT) (a b c : Int) : Int := if gSet V a b c = 0 then (if opC V T = 0 then 0 else 3) else gSet V a b c
theorem gTn_0 {V : Nat} {T : sT} {a b c : Int} : gTn V T a b c = 0 ↔ (gSet V a b c = 0 ∧ opC V T = 0) := by
  unfold gTn
  by_cases g : gSet V a b c = 0
  · rw [if_pos g]
    by_cases k : opC V T = 0
    · rw [if_pos k]; exact ⟨fun _ => ⟨g, k⟩, fun _ => rfl⟩
    · rw [if_neg k]; exact ⟨fun w => absurd w (by decide), fun w => absurd w.2 k⟩
  · rw [if_neg g]; exact ⟨fun w => absurd w g, fun w => absurd w.1 g⟩
theorem gTn_g {V : Nat} {T : sT} {a b c : Int} (g : ¬ gSet V a b c = 0) : gTn V T a b c = gSet V a b c := if_neg g
theorem gTn_3 {V : Nat} {T : sT} {a b c : Int} (g : gSet V a b c = 0) (k : ¬ opC V T = 0) : gTn V T a b c = 3 := by unfold gTn; rw [if_pos g, if_neg k]
theorem k_182E {d V : Nat} {T : sT} {hp : amH} {R : xQ} (hH : bHk 84 bTT hp) (hB : bdOk hp 3 V T) (h0 : opC V T = 0 → R (.inl none) hp) (h1 : ¬ opC V T = 0 → R (.inr 2) hp) : xK (d + 3) 182 [.ref 0] hp R := by
  have u182 : bUp 0 am_m182.1 = true := by decide +kernel
  refine xin (M := am_m182) rfl rfl rfl ?_
  refine xald 1 ⟨u182, _, rfl⟩ rfl rfl ?_
  refine xgetD 4 (3) hH ⟨u182, _, rfl⟩ rfl (by decide) (by decide) rfl rfl (by decide) ?_
  refine xcallC 7 (o := 3) [] [] hH ⟨u182, _, rfl⟩ rfl rfl (by decide) rfl (by decide) rfl ⟨rfl, rfl, rfl, rfl⟩ rfl (k_23E (o := 3) (Or.inl rfl) hH hB (fun z4 h4 => ⟨_, rfl, ?_⟩))
  refine xif_eq 10 ⟨u182, _, rfl⟩ rfl (fun c7 => ?_) (fun c7 => ?_)
  · exact xretV ⟨u182, _, rfl⟩ rfl (h0 (by omega))
  · exact xthr ⟨u182, _, rfl⟩ (by decide) rfl (by decide) (h1 (by omega))
theorem k_183E {d V : Nat} {T : sT} {hp : amH} {R : xQ} {a b c : Int32} (hH : bHk 84 bTT hp) (hB : bdOk hp 3 V T) (h0 : gTn V T a.toInt b.toInt c.toInt = 0 → R (.inl none) hp) (h1 : gTn V T a.toInt b.toInt c.toInt = 1 → R (.inr 1) hp) (h2 : gTn V T a.toInt b.toInt c.toInt = 2 → R (.inr 0) hp) (h3 : gTn V T a.toInt b.toInt c.toInt = 3 → R (.inr 2) hp) : xK (d + 4) 183 [.ref 0, .int a, .int b, .int c] hp R := by
  have u183 : bUp 0 am_m183.1 = true := by decide +kernel
  have b0 : rN hp 3 0 = (V : Int) := hB.1
  refine xin (M := am_m183) rfl rfl rfl ?_
  refine xald 1 ⟨u183, _, rfl⟩ rfl rfl ?_
  refine xild 2 ⟨u183, _, rfl⟩ rfl rfl ?_
  refine xild 3 ⟨u183, _, rfl⟩ rfl rfl ?_
  refine xild 4 ⟨u183, _, rfl⟩ rfl rfl ?_
  refine xcallT 7 (o := 0) [.int _, .int _, .int _] [] hH ⟨u183, _, rfl⟩ rfl rfl (by decide) rfl (by decide) rfl ⟨rfl, rfl, rfl, rfl⟩ rfl (k_rq3 hH b0 (fun g4 => Or.inl ⟨_, rfl, ?_⟩) (fun g4 => Or.inr ⟨_, rfl, rfl, h1 (by rw [gTn_g (by omega)]; exact g4)⟩) (fun g4 => Or.inr ⟨_, rfl, rfl, h2 (by rw [gTn_g (by omega)]; exact g4)⟩))
  refine xald 8 ⟨u183, _, rfl⟩ rfl rfl ?_
  refine xcallT 11 (o := 0) [] [] hH ⟨u183, _, rfl⟩ rfl rfl (by decide) rfl (by decide) rfl ⟨rfl, rfl, rfl, rfl⟩ rfl (k_182E hH hB (fun k8 => Or.inl ⟨_, rfl, ?_⟩) (fun k8 => Or.inr ⟨_, rfl, rfl, h3 (gTn_3 g4 k8)⟩))
  exact xretV ⟨u183, _, rfl⟩ rfl (h0 (gTn_0.mpr ⟨g4, k8⟩))
/-- the class leads a set -/
theorem k_28E {d V x y z : Nat} {T : sT} {hp : amH} {R : xQ} {s : Int32} (hH : bHk 84 bTT hp) (hB : bdOk hp 3 V T) (hc : opC V T = 0) (hs : s.toInt = ((m3 x y z : Nat) : Int)) (h1 : x < y) (h2 : y < z) (h3 : z < V)
    (hR : ∀ r : Int32, r.toInt = ((m3 (T y z).toNat (T x z).toNat (T x y).toNat : Nat) : Int) → R (.inl (some (.int r))) hp) : xK (d + 2) 28 [.ref 3, .int s] hp R := by
  have u28 : bUp 0 am_m28.1 = true := by decide +kernel
  have hT := hB.2.1
  have h15 := hT.2.1
  have ml : m3 x y z < 32768 := m3_lt (by omega) (by omega) (by omega)
  obtain ⟨e0, e1, e2⟩ := mem3 h1 h2 (show z < 15 by omega)
  obtain ⟨p, q, r, ep, eq, er, lp, lq, lr, -, -, -⟩ := nx_pts hT hc (show x < V by omega) (show y < V by omega) h3 (by omega) (by omega) (by omega)
  rw [ep, eq, er] at hR
  refine xin (M := am_m28) rfl rfl rfl ?_
  refine xild 1 ⟨u28, _, rfl⟩ rfl rfl ?_
  refine xcst 2 (0) ⟨u28, _, rfl⟩ rfl (by decide) (fun z1 h1 => ?_)
  refine xcallS 5 [.int _, .int _] [] hH ⟨u28, _, rfl⟩ rfl rfl rfl rfl rfl (k_mem hH (i := 0) hs ml (by omega) (fun z2 h2 => ⟨_, rfl, ?_⟩))
  rw [e0] at h2
  refine xist 6 ⟨u28, _, rfl⟩ rfl rfl ?_
  refine xild 7 ⟨u28, _, rfl⟩ rfl rfl ?_
  refine xcst 8 (1) ⟨u28, _, rfl⟩ rfl (by decide) (fun z7 h7 => ?_)
  refine xcallS 11 [.int _, .int _] [] hH ⟨u28, _, rfl⟩ rfl rfl rfl rfl rfl (k_mem hH (i := 1) hs ml (by omega) (fun z8 h8 => ⟨_, rfl, ?_⟩))
  rw [e1] at h8
  refine xist 12 ⟨u28, _, rfl⟩ rfl rfl ?_
  refine xild 13 ⟨u28, _, rfl⟩ rfl rfl ?_
  refine xcst 14 (2) ⟨u28, _, rfl⟩ rfl (by decide) (fun z13 h13 => ?_)
  refine xcallS 17 [.int _, .int _] [] hH ⟨u28, _, rfl⟩ rfl rfl rfl rfl rfl (k_mem hH (i := 2) hs ml (by omega) (fun z14 h14 => ⟨_, rfl, ?_⟩))
  rw [e2] at h14
  refine xist2 19 ⟨u28, _, rfl⟩ rfl rfl ?_
  refine xald 20 ⟨u28, _, rfl⟩ rfl rfl ?_
  refine xild 21 ⟨u28, _, rfl⟩ rfl rfl ?_
  refine xild2 23 ⟨u28, _, rfl⟩ rfl rfl ?_
  refine xcallC 26 (o := 3) [.int _, .int _] [] hH ⟨u28, _, rfl⟩ rfl rfl (by decide) rfl (by decide) rfl ⟨rfl, rfl, rfl, rfl⟩ rfl (k_thd (o := 3) (Or.inl rfl) hH hB (fun z23 h23 => ⟨_, rfl, ?_⟩))
  rw [if_pos (by omega), show Int32.toInt z8 = ((y : Nat) : Int) by omega, show Int32.toInt z14 = ((z : Nat) : Int) by omega, Int.toNat_natCast, Int.toNat_natCast, ep] at h23
  refine xald 27 ⟨u28, _, rfl⟩ rfl rfl ?_
  refine xild 28 ⟨u28, _, rfl⟩ rfl rfl ?_
  refine xild2 30 ⟨u28, _, rfl⟩ rfl rfl ?_
  refine xcallC 33 (o := 3) [.int _, .int _] [.int _] hH ⟨u28, _, rfl⟩ rfl rfl (by decide) rfl (by decide) rfl ⟨rfl, rfl, rfl, rfl⟩ rfl (k_thd (o := 3) (Or.inl rfl) hH hB (fun z30 h30 => ⟨_, rfl, ?_⟩))
  rw [if_pos (by omega), show Int32.toInt z2 = ((x : Nat) : Int) by omega, show Int32.toInt z14 = ((z : Nat) : Int) by omega, Int.toNat_natCast, Int.toNat_natCast, eq] at h30
  refine xald 34 ⟨u28, _, rfl⟩ rfl rfl ?_
  refine xild 35 ⟨u28, _, rfl⟩ rfl rfl ?_
  refine xild 36 ⟨u28, _, rfl⟩ rfl rfl ?_
  refine xcallC 39 (o := 3) [.int _, .int _] [.int _, .int _] hH ⟨u28, _, rfl⟩ rfl rfl (by decide) rfl (by decide) rfl ⟨rfl, rfl, rfl, rfl⟩ rfl (k_thd (o := 3) (Or.inl rfl) hH hB (fun z36 h36 => ⟨_, rfl, ?_⟩))
  rw [if_pos (by omega), show Int32.toInt z2 = ((x : Nat) : Int) by omega, show Int32.toInt z8 = ((y : Nat) : Int) by omega, Int.toNat_natCast, Int.toNat_natCast, er] at h36
  refine xcallS 42 [.int _, .int _, .int _] [] hH ⟨u28, _, rfl⟩ rfl rfl rfl rfl rfl (k_three (x := p) (y := q) (z := r) h23 h30 h36 (by omega) (by omega) (by omega) (fun z39 h39 => ⟨_, rfl, ?_⟩))
  exact xret ⟨u28, _, rfl⟩ rfl (hR _ h39)
theorem dig_or : ∀ x y z : Fin 16, ((z.1 <<< 8) ||| (y.1 <<< 4)) ||| x.1 = 256 * z.1 + 16 * y.1 + x.1 := by decide +kernel
theorem k_73E {d a b c : Nat} {hp : amH} {R : xQ} {s : Int32} (hH : bHk 84 bTT hp) (hs : s.toInt = ((m3 a b c : Nat) : Int)) (ha : a < 15) (hb : b < 15) (hc : c < 15) (hab : ¬ a = b) (hbc : ¬ b = c) (hac : ¬ a = c)
    (hR : ∀ r : Int32, r.toInt = ((cod a b c : Nat) : Int) → R (.inl (some (.int r))) hp) : xK (d + 2) 73 [.int s] hp R := by
  have u73 : bUp 0 am_m73.1 = true := by decide +kernel
  obtain ⟨x, y, z, h1, h2, hp3, em, ec, -⟩ := set_s hab hbc hac
  have lz : z < 15 := by have := (hp3 z).mp (Or.inr (Or.inr rfl)); omega
  have ml : m3 x y z < 32768 := m3_lt (by omega) (by omega) lz
  obtain ⟨e0, e1, e2⟩ := mem3 h1 h2 lz
  rw [em] at hs
  rw [ec, cod_s h1 h2] at hR
  have dg : ((z <<< 8) ||| (y <<< 4)) ||| x = 256 * z + 16 * y + x := dig_or ⟨x, by omega⟩ ⟨y, by omega⟩ ⟨z, by omega⟩
  refine xin (M := am_m73) rfl rfl rfl ?_
  refine xild 1 ⟨u73, _, rfl⟩ rfl rfl ?_
  refine xcst 2 (2) ⟨u73, _, rfl⟩ rfl (by decide) (fun z1 h1 => ?_)
  refine xcallS 5 [.int _, .int _] [] hH ⟨u73, _, rfl⟩ rfl rfl rfl rfl rfl (k_mem hH (i := 2) hs ml (by omega) (fun z2 h2 => ⟨_, rfl, ?_⟩))
  rw [e2] at h2
  refine xbip 7 (8) ⟨u73, _, rfl⟩ rfl (by decide) (fun z5 h5 => ?_)
  refine xshl 8 ⟨u73, _, rfl⟩ rfl ?_
  refine xild 9 ⟨u73, _, rfl⟩ rfl rfl ?_
  refine xcst 10 (1) ⟨u73, _, rfl⟩ rfl (by decide) (fun z9 h9 => ?_)
  refine xcallS 13 [.int _, .int _] [.int _] hH ⟨u73, _, rfl⟩ rfl rfl rfl rfl rfl (k_mem hH (i := 1) hs ml (by omega) (fun z10 h10 => ⟨_, rfl, ?_⟩))
  rw [e1] at h10
  refine xcst 14 (4) ⟨u73, _, rfl⟩ rfl (by decide) (fun z13 h13 => ?_)
  refine xshl 15 ⟨u73, _, rfl⟩ rfl ?_
  refine xor_ 16 ⟨u73, _, rfl⟩ rfl ?_
  refine xild 17 ⟨u73, _, rfl⟩ rfl rfl ?_
  refine xcst 18 (0) ⟨u73, _, rfl⟩ rfl (by decide) (fun z17 h17 => ?_)
  refine xcallS 21 [.int _, .int _] [.int _] hH ⟨u73, _, rfl⟩ rfl rfl rfl rfl rfl (k_mem hH (i := 0) hs ml (by omega) (fun z18 h18 => ⟨_, rfl, ?_⟩))
  rw [e0] at h18
  refine xor_ 22 ⟨u73, _, rfl⟩ rfl ?_
  have w1 := i_shlB h2 (m := z) (k := 8) (c := z5) (by omega) (by omega) (by omega)
  have w2 := i_shlB h10 (m := y) (k := 4) (c := z13) (by omega) (by omega) (by omega)
  have w3 := i_orG w1.1 w2.1 w1.2 w2.2
  have w4 := i_orG w3.1 h18 w3.2 (by omega)
  rw [dg] at w4
  exact xret ⟨u73, _, rfl⟩ rfl (hR _ w4.1)
theorem u150 : bUp 0 am_m150.1 = true := by decide +kernel
theorem k_150E {d V n : Nat} {h : Nat → sR} {sv : Option sR} {T : sT} {ty : Nat → Int} {hp : amH} {R : xQ} {a b c : Int32} (hH : bHk 84 bTT hp) (hS : clS hp (V, T, ty) n h sv)
    (hT : ∀ E hp1, bHk 84 bTT hp1 → cF hp hp1 → clS hp1 (V, T, ty) n h sv → ¬ gTn V T a.toInt b.toInt c.toInt = 0 → ((gTn V T a.toInt b.toInt c.toInt = 1 ∧ E = 1) ∨ (gTn V T a.toInt b.toInt c.toInt = 2 ∧ E = 0) ∨ (gTn V T a.toInt b.toInt c.toInt = 3 ∧ E = 2)) → R (.inr E) hp1)
    (hR : ∀ (z : Int32) hp1, bHk 84 bTT hp1 → cF hp hp1 → gTn V T a.toInt b.toInt c.toInt = 0 → clS hp1 (V, T, ty) n h sv → z.toInt = ((nxV T a.toInt.toNat b.toInt.toNat c.toInt.toNat : Nat) : Int) → R (.inl (some (.int z))) hp1) : xK (d + 6) 150 [.ref 0, .int a, .int b, .int c] hp R := by
  have hB : bdOk hp 3 V T := hS.1
  have b0 : rN hp 3 0 = (V : Int) := hB.1
  have hL : lsN hp 3 T 225 := hS.2.1
  have b1 : rN hp 3 1 = (((trL T 225).length : Nat) : Int) := hL.1
  have hT0 : sOk V T := hB.2.1
  have h15 : V ≤ 15 := hT0.2.1
  have l35 : (trL T 225).length ≤ 35 := trL_35 hT0 225
  have nq0 : rN hp 49 0 = ((nQ T : Nat) : Int) := hS.2.2.1.1
  refine xin (M := am_m150) rfl rfl rfl ?_
  refine xald 1 ⟨u150, _, rfl⟩ rfl rfl ?_
  refine xild 2 ⟨u150, _, rfl⟩ rfl rfl ?_
  refine xild 3 ⟨u150, _, rfl⟩ rfl rfl ?_
  refine xild 4 ⟨u150, _, rfl⟩ rfl rfl ?_
  refine xcallT 7 (o := 0) [.int _, .int _, .int _] [] hH ⟨u150, _, rfl⟩ rfl rfl (by decide) rfl (by decide) rfl ⟨rfl, rfl, rfl, rfl⟩ rfl (k_183E hH hB (fun g4 => Or.inl ⟨_, rfl, ?_⟩) (fun g4 => Or.inr ⟨_, rfl, rfl, hT _ hp hH cF.refl hS (by omega) (Or.inl ⟨g4, rfl⟩)⟩) (fun g4 => Or.inr ⟨_, rfl, rfl, hT _ hp hH cF.refl hS (by omega) (Or.inr (Or.inl ⟨g4, rfl⟩))⟩) (fun g4 => Or.inr ⟨_, rfl, rfl, hT _ hp hH cF.refl hS (by omega) (Or.inr (Or.inr ⟨g4, rfl⟩))⟩))
  have k4 := gSet_0.mp (gTn_0.mp g4).1
  have c4 := (gTn_0.mp g4).2
  obtain ⟨x, y, z, s1, s2, s3, em, -, en⟩ := set_s (a := a.toInt.toNat) (b := b.toInt.toNat) (c := c.toInt.toNat) (by omega) (by omega) (by omega)
  have lz : z < V := by have := (s3 z).mp (Or.inr (Or.inr rfl)); omega
  obtain ⟨p, q, r, ep, eq, er, lp, lq, lr, npq, nqr, npr⟩ := nx_pts hT0 c4 (show x < V by omega) (show y < V by omega) lz (by omega) (by omega) (by omega)
  refine xald 8 ⟨u150, _, rfl⟩ rfl rfl ?_
  refine xgetD 11 (3) hH ⟨u150, _, rfl⟩ rfl (by decide) (by decide) rfl rfl (by decide) ?_
  refine xild 12 ⟨u150, _, rfl⟩ rfl rfl ?_
  refine xild 13 ⟨u150, _, rfl⟩ rfl rfl ?_
  refine xild 14 ⟨u150, _, rfl⟩ rfl rfl ?_
  refine xcallS 17 [.int _, .int _, .int _] [.ref 3] hH ⟨u150, _, rfl⟩ rfl rfl rfl rfl rfl (k_three (x := a.toInt.toNat) (y := b.toInt.toNat) (z := c.toInt.toNat) (by omega) (by omega) (by omega) (by omega) (by omega) (by omega) (fun z14 h14 => ⟨_, rfl, ?_⟩))
  rw [em] at h14
  refine xcallC 20 (o := 3) [.int _] [] hH ⟨u150, _, rfl⟩ rfl rfl (by decide) rfl (by decide) rfl ⟨rfl, rfl, rfl, rfl⟩ rfl (k_28E hH hB c4 h14 s1 s2 lz (fun z17 h17 => ⟨_, rfl, ?_⟩))
  rw [ep, eq, er] at h17
  refine xcallS 23 [.int _] [] hH ⟨u150, _, rfl⟩ rfl rfl rfl rfl rfl (k_73E hH h17 (by omega) (by omega) (by omega) npq nqr npr (fun z20 h20 => ⟨_, rfl, ?_⟩))
  exact xret ⟨u150, _, rfl⟩ rfl (hR _ _ hH cF.refl g4 hS (by rw [h20, en hT0]; unfold nxV; rw [ep, eq, er]))
theorem k_310E {d x y z : Nat} {hp : amH} {R : xQ} {a b c : Int32} (hH : bHk 84 bTT hp) (ha : a.toInt = (x : Int)) (hb : b.toInt = (y : Int)) (hc : c.toInt = (z : Int)) (hx : x < 15) (hy : y < 15) (hz : z < 15)
    (hR : ∀ r : Int32, r.toInt = ((cod x y z : Nat) : Int) → R (.inl (some (.int r))) hp) : xK (d + 1) 310 [.int a, .int b, .int c] hp R := by
  have u310 : bUp 0 am_m310.1 = true := by decide +kernel
  refine xin (M := am_m310) rfl rfl rfl ?_
  refine xild 1 ⟨u310, _, rfl⟩ rfl rfl ?_
  refine xild 2 ⟨u310, _, rfl⟩ rfl rfl ?_
  refine xild 3 ⟨u310, _, rfl⟩ rfl rfl ?_
  refine xcallS 6 [.int _, .int _] [.int _] hH ⟨u310, _, rfl⟩ rfl rfl rfl rfl rfl (k_max (fun z3 h3 => ⟨_, rfl, ?_⟩))
  refine xcallS 9 [.int _, .int _] [] hH ⟨u310, _, rfl⟩ rfl rfl rfl rfl rfl (k_max (fun z6 h6 => ⟨_, rfl, ?_⟩))
  refine xist 10 ⟨u310, _, rfl⟩ rfl rfl ?_
  refine xild 11 ⟨u310, _, rfl⟩ rfl rfl ?_
  refine xild 12 ⟨u310, _, rfl⟩ rfl rfl ?_
  refine xild 13 ⟨u310, _, rfl⟩ rfl rfl ?_
  refine xcallS 16 [.int _, .int _] [.int _] hH ⟨u310, _, rfl⟩ rfl rfl rfl rfl rfl (k_min (fun z13 h13 => ⟨_, rfl, ?_⟩))
  refine xcallS 19 [.int _, .int _] [] hH ⟨u310, _, rfl⟩ rfl rfl rfl rfl rfl (k_min (fun z16 h16 => ⟨_, rfl, ?_⟩))
  refine xist2 21 ⟨u310, _, rfl⟩ rfl rfl ?_
  have e6 : z6.toInt = ((max x (max y z) : Nat) : Int) := by omega
  have e16 : z16.toInt = ((min x (min y z) : Nat) : Int) := by omega
  refine xsip 24 (256) ⟨u310, _, rfl⟩ rfl (by decide) (fun z21 h21 => ?_)
  refine xild 25 ⟨u310, _, rfl⟩ rfl rfl ?_
  refine xmul 26 (256 * Int32.toInt z6) ⟨u310, _, rfl⟩ rfl (by rw [h21]) (by omega) (by omega) (fun z25 h25 => ?_)
  refine xbip 28 (16) ⟨u310, _, rfl⟩ rfl (by decide) (fun z26 h26 => ?_)
  refine xild 29 ⟨u310, _, rfl⟩ rfl rfl ?_
  refine xild 30 ⟨u310, _, rfl⟩ rfl rfl ?_
  refine xadd 31 _ ⟨u310, _, rfl⟩ rfl rfl (by omega) (by omega) (fun z30 h30 => ?_)
  refine xild 32 ⟨u310, _, rfl⟩ rfl rfl ?_
  refine xadd 33 _ ⟨u310, _, rfl⟩ rfl rfl (by omega) (by omega) (fun z32 h32 => ?_)
  refine xild 34 ⟨u310, _, rfl⟩ rfl rfl ?_
  refine xsub 35 _ ⟨u310, _, rfl⟩ rfl rfl (by omega) (by omega) (fun z34 h34 => ?_)
  refine xild2 37 ⟨u310, _, rfl⟩ rfl rfl ?_
  refine xsub 38 _ ⟨u310, _, rfl⟩ rfl rfl (by omega) (by omega) (fun z37 h37 => ?_)
  refine xmul 39 (16 * Int32.toInt z37) ⟨u310, _, rfl⟩ rfl (by rw [h26]) (by omega) (by omega) (fun z38 h38 => ?_)
  refine xadd 40 _ ⟨u310, _, rfl⟩ rfl rfl (by omega) (by omega) (fun z39 h39 => ?_)
  refine xild2 42 ⟨u310, _, rfl⟩ rfl rfl ?_
  refine xadd 43 _ ⟨u310, _, rfl⟩ rfl rfl (by omega) (by omega) (fun z42 h42 => ?_)
  exact xret ⟨u310, _, rfl⟩ rfl (hR _ (by unfold cod; omega))
theorem k_311E {d V x y z : Nat} {T : sT} {hp : amH} {R : xQ} {c : Int32} (hH : bHk 84 bTT hp) (hB : rdOk hp V T) (hc : opC V T = 0) (h : c.toInt = ((256 * z + 16 * y + x : Nat) : Int)) (h1 : x < y) (h2 : y < z) (h3 : z < V)
    (hR : ∀ r : Int32, r.toInt = ((nxV T x y z : Nat) : Int) → R (.inl (some (.int r))) hp) : xK (d + 2) 311 [.ref 66, .int c] hp R := by
  have u311 : bUp 0 am_m311.1 = true := by decide +kernel
  have hT := hB.2.1
  have h15 := hT.2.1
  obtain ⟨p, q, r, ep, eq, er, lp, lq, lr, npq, nqr, npr⟩ := nx_pts hT hc (show x < V by omega) (show y < V by omega) h3 (by omega) (by omega) (by omega)
  have en : nxV T x y z = cod p q r := by unfold nxV; rw [ep, eq, er]; rfl
  rw [en] at hR
  refine xin (M := am_m311) rfl rfl rfl ?_
  refine xild 1 ⟨u311, _, rfl⟩ rfl rfl ?_
  refine xsip 4 (256) ⟨u311, _, rfl⟩ rfl (by decide) (fun z1 h1 => ?_)
  refine xdiv 5 (Int32.toInt c / 256) ⟨u311, _, rfl⟩ rfl (by omega) (by omega) (by rw [h1]) (fun z4 h4 => ?_)
  refine xist 6 ⟨u311, _, rfl⟩ rfl rfl ?_
  refine xild 7 ⟨u311, _, rfl⟩ rfl rfl ?_
  refine xbip 9 (16) ⟨u311, _, rfl⟩ rfl (by decide) (fun z7 h7 => ?_)
  refine xdiv 10 (Int32.toInt c / 16) ⟨u311, _, rfl⟩ rfl (by omega) (by omega) (by rw [h7]) (fun z9 h9 => ?_)
  refine xbip 12 (16) ⟨u311, _, rfl⟩ rfl (by decide) (fun z10 h10 => ?_)
  refine xrem 13 (Int32.toInt z9 % 16) ⟨u311, _, rfl⟩ rfl (by omega) (by omega) (by rw [h10]) (fun z12 h12 => ?_)
  refine xist 14 ⟨u311, _, rfl⟩ rfl rfl ?_
  refine xild 15 ⟨u311, _, rfl⟩ rfl rfl ?_
  refine xbip 17 (16) ⟨u311, _, rfl⟩ rfl (by decide) (fun z15 h15 => ?_)
  refine xrem 18 (Int32.toInt c % 16) ⟨u311, _, rfl⟩ rfl (by omega) (by omega) (by rw [h15]) (fun z17 h17 => ?_)
  refine xist2 20 ⟨u311, _, rfl⟩ rfl rfl ?_
  refine xald 21 ⟨u311, _, rfl⟩ rfl rfl ?_
  refine xild 22 ⟨u311, _, rfl⟩ rfl rfl ?_
  refine xild 23 ⟨u311, _, rfl⟩ rfl rfl ?_
  refine xcall 26 [.ref 66, .int _, .int _] [] hH ⟨u311, _, rfl⟩ rfl rfl rfl rfl rfl (k_third hH (by omega) (by omega) (by omega) (by omega) (fun z23 h23 => ⟨_, rfl, ?_⟩))
  have h23 := h23.trans (hB.2.2.1 _ _ (by omega) (by omega))
  rw [show Int32.toInt z4 = ((z : Nat) : Int) by omega, show Int32.toInt z12 = ((y : Nat) : Int) by omega, Int.toNat_natCast, Int.toNat_natCast, sy_T hT, ep] at h23
  refine xild2 28 ⟨u311, _, rfl⟩ rfl rfl ?_
  refine xcmp_ne 31 ⟨u311, _, rfl⟩ rfl (fun c28 => ?_) (fun c28 => ?_)
  · refine xald 34 ⟨u311, _, rfl⟩ rfl rfl ?_
    refine xild 35 ⟨u311, _, rfl⟩ rfl rfl ?_
    refine xild2 37 ⟨u311, _, rfl⟩ rfl rfl ?_
    refine xcall 40 [.ref 66, .int _, .int _] [] hH ⟨u311, _, rfl⟩ rfl rfl rfl rfl rfl (k_third hH (by omega) (by omega) (by omega) (by omega) (fun z37 h37 => ⟨_, rfl, ?_⟩))
    have h37 := h37.trans (hB.2.2.1 _ _ (by omega) (by omega))
    rw [show Int32.toInt z12 = ((y : Nat) : Int) by omega, show Int32.toInt z17 = ((x : Nat) : Int) by omega, Int.toNat_natCast, Int.toNat_natCast, sy_T hT, er] at h37
    refine xald 41 ⟨u311, _, rfl⟩ rfl rfl ?_
    refine xild 42 ⟨u311, _, rfl⟩ rfl rfl ?_
    refine xild2 44 ⟨u311, _, rfl⟩ rfl rfl ?_
    refine xcall 47 [.ref 66, .int _, .int _] [.int _] hH ⟨u311, _, rfl⟩ rfl rfl rfl rfl rfl (k_third hH (by omega) (by omega) (by omega) (by omega) (fun z44 h44 => ⟨_, rfl, ?_⟩))
    have h44 := h44.trans (hB.2.2.1 _ _ (by omega) (by omega))
    rw [show Int32.toInt z4 = ((z : Nat) : Int) by omega, show Int32.toInt z17 = ((x : Nat) : Int) by omega, Int.toNat_natCast, Int.toNat_natCast, sy_T hT, eq] at h44
    refine xald 48 ⟨u311, _, rfl⟩ rfl rfl ?_
    refine xild 49 ⟨u311, _, rfl⟩ rfl rfl ?_
    refine xild 50 ⟨u311, _, rfl⟩ rfl rfl ?_
    refine xcall 53 [.ref 66, .int _, .int _] [.int _, .int _] hH ⟨u311, _, rfl⟩ rfl rfl rfl rfl rfl (k_third hH (by omega) (by omega) (by omega) (by omega) (fun z50 h50 => ⟨_, rfl, ?_⟩))
    have h50 := h50.trans (hB.2.2.1 _ _ (by omega) (by omega))
    rw [show Int32.toInt z4 = ((z : Nat) : Int) by omega, show Int32.toInt z12 = ((y : Nat) : Int) by omega, Int.toNat_natCast, Int.toNat_natCast, sy_T hT, ep] at h50
    refine xcallS 56 [.int _, .int _, .int _] [] hH ⟨u311, _, rfl⟩ rfl rfl rfl rfl rfl (k_310E hH (x := r) (y := q) (z := p) h37 h44 h50 (by omega) (by omega) (by omega) (fun z53 h53 => ⟨_, rfl, ?_⟩))
    exact xret ⟨u311, _, rfl⟩ rfl (hR _ (by rw [h53, show cod r q p = cod p q r by unfold cod; omega]))
  · refine xild 32 ⟨u311, _, rfl⟩ rfl rfl ?_
    exact xret ⟨u311, _, rfl⟩ rfl (hR _ (by
      obtain rfl : p = x := by omega
      have k1 : T z y = (p : Int) := by rw [sy_T hT]; exact ep
      obtain ⟨k, ek, -, -, -, -, -, -, -, q1⟩ := sOk_at hT k1 (by omega)
      obtain rfl : p = k := by omega
      have k2 : T z p = (q : Int) := by rw [sy_T hT]; exact eq
      obtain rfl : y = q := by omega
      obtain ⟨k, ek, -, -, -, -, -, -, -, q2⟩ := sOk_at hT ep (by omega)
      obtain rfl : p = k := by omega
      have k3 : T y p = (r : Int) := by rw [sy_T hT]; exact er
      obtain rfl : z = r := by omega
      rw [cod_s h1 h2]
      exact h))
theorem k_309E {d V n : Nat} {h : Nat → sR} {sv : Option sR} {T : sT} {ty : Nat → Int} {hp : amH} {R : xQ} {a b c : Int32} (hH : bHk 84 bTT hp) (hP : P0 hp) (hS : rfS hp (V, T, ty) n h sv)
    (hR : ∀ (z : Int32) hp1, bHk 84 bTT hp1 → P0 hp1 → bFr ((66, 7) :: bLT) hp hp1 → rfS hp1 (V, T, ty) n h sv → rN hp1 66 7 = gTn V T a.toInt b.toInt c.toInt → ((gTn V T a.toInt b.toInt c.toInt = 0 ∧ z.toInt = 0) ∨ (¬ gTn V T a.toInt b.toInt c.toInt = 0 ∧ z.toInt = 1)) → R (.inl (some (.int z))) hp1) : xK (d + 5) 309 [.ref 66, .int a, .int b, .int c] hp R := by
  have u309 : bUp 0 am_m309.1 = true := by decide +kernel
  have hB : rdOk hp V T := rowOk_rd hS.1
  have b0 : rN hp 67 0 = (V : Int) := hB.1
  have h15 : V ≤ 15 := hB.2.1.2.1
  have ic01 : icV V T = 0 ∨ icV V T = 1 := by unfold icV; split <;> simp
  refine xin (M := am_m309) rfl rfl rfl ?_
  refine xald 1 ⟨u309, _, rfl⟩ rfl rfl ?_
  refine xild 2 ⟨u309, _, rfl⟩ rfl rfl ?_
  refine xild 3 ⟨u309, _, rfl⟩ rfl rfl ?_
  refine xild 4 ⟨u309, _, rfl⟩ rfl rfl ?_
  refine xcall 7 [.ref 66, .int _, .int _, .int _] [] hH ⟨u309, _, rfl⟩ rfl rfl rfl rfl rfl (k_gp3 hH b0 h15 (fun z4 hp4 hH4 F4 t4 o4 => ⟨_, rfl, ?_⟩))
  have S4 := rfS_W hS F4 (fun _ => rfl) rfl rfl (fun _ => rfl) (fun _ => rfl)
  have P4 : P0 hp4 := P0_W (W := [(66, 7)]) (by decide) F4 hP
  refine xif_ne 10 ⟨u309, _, rfl⟩ rfl (fun c7 => ?_) (fun c7 => ?_)
  · have g4 : ¬ gSet V a.toInt b.toInt c.toInt = 0 := by omega
    refine xcst 31 (1) ⟨u309, _, rfl⟩ rfl (by decide) (fun z30 h30 => ?_)
    refine xgoto ⟨u309, _, rfl⟩ ?_
    exact xretB ⟨u309, _, rfl⟩ rfl (by omega) (hR _ hp4 hH4 P4 (bFr_sub F4 (by decide)) S4 (by rw [gTn_g g4]; exact t4) (Or.inr ⟨by rw [gTn_g g4]; exact g4, by omega⟩))
  · have g4 : gSet V a.toInt b.toInt c.toInt = 0 := by omega
    refine xald 11 ⟨u309, _, rfl⟩ rfl rfl ?_
    refine xald 12 ⟨u309, _, rfl⟩ rfl rfl ?_
    refine xcall 15 [.ref 66] [.ref 66] hH4 ⟨u309, _, rfl⟩ rfl rfl rfl rfl rfl (k_262E hH4 P4 (show rdOk hp4 V T from rowOk_rd S4.1) (fun z12 hp12 hH12 F12 B12 L12 h12 => ⟨_, rfl, ?_⟩))
    have S12 := rfS_W S4 F12 (fun _ => rfl) rfl rfl (fun _ => rfl) (fun _ => rfl)
    have P12 : P0 hp12 := P0_W (W := bLT) (by decide) F12 P4
    have t12 : rN hp12 66 7 = rN hp4 66 7 := r_fr F12 rfl
    refine xif_ne 18 ⟨u309, _, rfl⟩ rfl (fun c15 => ?_) (fun c15 => ?_)
    · have k12 : opC V T = 0 := by
        unfold icV at h12
        split at h12
        · assumption
        · omega
      refine xcst 23 (0) ⟨u309, _, rfl⟩ rfl (by decide) (fun z22 h22 => ?_)
      refine xcst 24 (3) ⟨u309, _, rfl⟩ rfl (by decide) (fun z23 h23 => ?_)
      refine xcall 27 [.ref 66, .int _, .int _] [] hH12 ⟨u309, _, rfl⟩ rfl rfl rfl rfl rfl (k_failsE hH12 (by omega) (fun hp24 hH24 V24 => ⟨_, rfl, ?_⟩))
      refine xif_eq 30 ⟨u309, _, rfl⟩ rfl (fun c27 => ?_) (fun c27 => ?_)
      · refine xcst 35 (0) ⟨u309, _, rfl⟩ rfl (by decide) (fun z34 h34 => ?_)
        rcases V24 with ⟨q1, e⟩ | ⟨q1, -⟩
        · have e := e.symm
          subst e
          exact xretB ⟨u309, _, rfl⟩ rfl (by omega) (hR _ hp12 hH12 P12 ((bFr_sub F4 (by decide)).trans (bFr_sub F12 (by decide))) S12 (by rw [t12, t4, gTn_0.mpr ⟨g4, k12⟩]; exact g4) (Or.inl ⟨gTn_0.mpr ⟨g4, k12⟩, by omega⟩))
        · omega
      · rcases V24 with ⟨q1, -⟩ | ⟨q1, -⟩ <;> omega
    · have k12 : ¬ opC V T = 0 := by
        unfold icV at h12
        split at h12
        · omega
        · assumption
      refine xcst 19 (1) ⟨u309, _, rfl⟩ rfl (by decide) (fun z18 h18 => ?_)
      refine xgoto ⟨u309, _, rfl⟩ ?_
      refine xcst 24 (3) ⟨u309, _, rfl⟩ rfl (by decide) (fun z23 h23 => ?_)
      refine xcall 27 [.ref 66, .int _, .int _] [] hH12 ⟨u309, _, rfl⟩ rfl rfl rfl rfl rfl (k_failsE hH12 (by omega) (fun hp24 hH24 V24 => ⟨_, rfl, ?_⟩))
      refine xif_eq 30 ⟨u309, _, rfl⟩ rfl (fun c27 => ?_) (fun c27 => ?_)
      · rcases V24 with ⟨q1, -⟩ | ⟨q1, -⟩ <;> omega
      · refine xcst 31 (1) ⟨u309, _, rfl⟩ rfl (by decide) (fun z30 h30 => ?_)
        refine xgoto ⟨u309, _, rfl⟩ ?_
        rcases V24 with ⟨q1, -⟩ | ⟨q1, U⟩
        · omega
        · exact xretB ⟨u309, _, rfl⟩ rfl (by omega) (hR _ hp24 hH24 (P0_W (W := [(66, 7)]) (by decide) (rU_fr U rfl) P12) (((bFr_sub F4 (by decide)).trans (bFr_sub F12 (by decide))).trans (rU_fr U (by decide))) (rfS_W (W := [(66, 7)]) S12 (rU_fr U rfl) (fun _ => rfl) rfl rfl (fun _ => rfl) (fun _ => rfl)) (by rw [U.1, gTn_3 g4 k12]; omega) (Or.inr ⟨by rw [gTn_3 g4 k12]; decide, by omega⟩))
theorem k_314E {d V n : Nat} {h : Nat → sR} {sv : Option sR} {T : sT} {ty : Nat → Int} {hp : amH} {R : xQ} {a b c : Int32} (hH : bHk 84 bTT hp) (hP : P0 hp) (hS : rfS hp (V, T, ty) n h sv)
    (hR : ∀ (z : Int32) hp1, bHk 84 bTT hp1 → P0 hp1 → bFr wM hp hp1 → rN hp1 66 7 = gTn V T a.toInt b.toInt c.toInt → ((¬ gTn V T a.toInt b.toInt c.toInt = 0 ∧ rfS hp1 (V, T, ty) n h sv) ∨ (gTn V T a.toInt b.toInt c.toInt = 0 ∧ rfS hp1 (V, T, ty) n h sv ∧ z.toInt = ((nxV T a.toInt.toNat b.toInt.toNat c.toInt.toNat : Nat) : Int))) → R (.inl (some (.int z))) hp1) : xK (d + 7) 314 [.ref 66, .int a, .int b, .int c] hp R := by
  have hB : rdOk hp V T := rowOk_rd hS.1
  have b0 : rN hp 67 0 = (V : Int) := hB.1
  have hT0 : sOk V T := hB.2.1
  have h15 : V ≤ 15 := hT0.2.1
  have l35 : (trL T 225).length ≤ 35 := trL_35 hT0 225
  refine xin (M := am_m314) rfl rfl rfl ?_
  refine xald 1 ⟨u314, _, rfl⟩ rfl rfl ?_
  refine xild 2 ⟨u314, _, rfl⟩ rfl rfl ?_
  refine xild 3 ⟨u314, _, rfl⟩ rfl rfl ?_
  refine xild 4 ⟨u314, _, rfl⟩ rfl rfl ?_
  refine xcall 7 [.ref 66, .int _, .int _, .int _] [] hH ⟨u314, _, rfl⟩ rfl rfl rfl rfl rfl (k_309E hH hP hS (fun z4 hp4 hH4 P4 F4 S4 t4 o4 => ⟨_, rfl, ?_⟩))
  refine xif_eq 10 ⟨u314, _, rfl⟩ rfl (fun c7 => ?_) (fun c7 => ?_)
  · have g4 : gTn V T a.toInt b.toInt c.toInt = 0 := by omega
    have k4 := gSet_0.mp (gTn_0.mp g4).1
    have c4 := (gTn_0.mp g4).2
    obtain ⟨x, y, z, s1, s2, s3, -, ec, en⟩ := set_s (a := a.toInt.toNat) (b := b.toInt.toNat) (c := c.toInt.toNat) (by omega) (by omega) (by omega)
    have lz : z < V := by have := (s3 z).mp (Or.inr (Or.inr rfl)); omega
    refine xald 15 ⟨u314, _, rfl⟩ rfl rfl ?_
    refine xild 16 ⟨u314, _, rfl⟩ rfl rfl ?_
    refine xild 17 ⟨u314, _, rfl⟩ rfl rfl ?_
    refine xild 18 ⟨u314, _, rfl⟩ rfl rfl ?_
    refine xcallS 21 [.int _, .int _, .int _] [.ref 66] hH4 ⟨u314, _, rfl⟩ rfl rfl rfl rfl rfl (k_310E hH4 (x := a.toInt.toNat) (y := b.toInt.toNat) (z := c.toInt.toNat) (by omega) (by omega) (by omega) (by omega) (by omega) (by omega) (fun z18 h18 => ⟨_, rfl, ?_⟩))
    rw [ec, cod_s s1 s2] at h18
    refine xcall 24 [.ref 66, .int _] [] hH4 ⟨u314, _, rfl⟩ rfl rfl rfl rfl rfl (k_311E hH4 (show rdOk hp4 V T from rowOk_rd S4.1) c4 h18 s1 s2 lz (fun z21 h21 => ⟨_, rfl, ?_⟩))
    exact xret ⟨u314, _, rfl⟩ rfl (hR _ hp4 hH4 P4 (bFr_sub F4 (by decide)) t4 (Or.inr ⟨g4, S4, by rw [en hT0]; exact h21⟩))
  · refine xcst 11 (0) ⟨u314, _, rfl⟩ rfl (by decide) (fun z10 h10 => ?_)
    refine xgoto ⟨u314, _, rfl⟩ ?_
    exact xret ⟨u314, _, rfl⟩ rfl (hR _ hp4 hH4 P4 (bFr_sub F4 (by decide)) t4 (Or.inl ⟨by omega, S4⟩))
theorem h371E {d : Nat} {hp : amH} {R : cQ} {x1 x2 x3 : Int32} {V n : Nat} {h : Nat → sR} {sv : Option sR} {T : sT} {ty : Nat → Int} (hI : lawI hp) (c : clS hp (V, T, ty) n h sv) (r : rfS hp (V, T, ty) n h sv)
    (hR : ∀ (z : Int32) hp1 mc ms, lawI hp1 → rfS hp1 (V, T, ty) n h sv → z.toInt = gTn V T x1.toInt x2.toInt x3.toInt → ((¬ gTn V T x1.toInt x2.toInt x3.toInt = 0 ∧ clS hp1 (V, T, ty) n h sv) ∨ (gTn V T x1.toInt x2.toInt x3.toInt = 0 ∧ clS hp1 (V, T, ty) n h sv ∧ rJ hp1 83 0 = ((nxV T x1.toInt.toNat x2.toInt.toNat x3.toInt.toNat : Nat) : Int))) → mc ≤ 1 → ms ≤ 6 → R (.inl (some (.int z))) hp1 mc ms) : cK (d + 20) 371 [.ref 0, .int x1, .int x2, .int x3, .ref 83] hp R := by
  refine cin (M := am_m371) rfl rfl rfl ?_
  refine cald2 2 ⟨u371J, _, rfl⟩ rfl rfl ?_
  refine ccst 3 (0) ⟨u371J, _, rfl⟩ rfl (by decide) (fun z2 h2 => ?_)
  refine cald 4 ⟨u371J, _, rfl⟩ rfl rfl ?_
  refine cild 5 ⟨u371J, _, rfl⟩ rfl rfl ?_
  refine cild 6 ⟨u371J, _, rfl⟩ rfl rfl ?_
  refine cild 7 ⟨u371J, _, rfl⟩ rfl rfl ?_
  refine ccall (kd := 0) (t := 3) [.ref 0, .int _, .int _, .int _] [.int _, .ref 83] hI.1 ⟨u371J, _, rfl⟩ (Or.inl ⟨_, rfl, rfl, by decide, by decide⟩) rfl rfl rfl ⟨rfl, rfl, rfl⟩ rfl (recv0 hI.1 _) rfl (qKE (Φ := fun z hp1 => bHk 84 bTT hp1 ∧ cF hp hp1 ∧ gTn V T x1.toInt x2.toInt x3.toInt = 0 ∧ clS hp1 (V, T, ty) n h sv ∧ z.toInt = ((nxV T x1.toInt.toNat x2.toInt.toNat x3.toInt.toNat : Nat) : Int)) (Ψ := fun E hp1 => lawI hp1 ∧ rfS hp1 (V, T, ty) n h sv ∧ clS hp1 (V, T, ty) n h sv ∧ ¬ gTn V T x1.toInt x2.toInt x3.toInt = 0 ∧ ((gTn V T x1.toInt x2.toInt x3.toInt = 1 ∧ E = 1) ∨ (gTn V T x1.toInt x2.toInt x3.toInt = 2 ∧ E = 0) ∨ (gTn V T x1.toInt x2.toInt x3.toInt = 3 ∧ E = 2))) (fun R g1 g2 => k_150E (d := d + 13) hI.1 c (fun E hp1 b1 b2 b3 e1 e2 => g2 E hp1 ⟨law_cl hI b1 b2, cF_rf b2 r, b3, e1, e2⟩) (fun z hp1 a1 a2 a3 a4 a5 => g1 z hp1 ⟨a1, a2, a3, a4, a5⟩)) (fun z hp1 φ => Or.inl ⟨_, rfl, ?_⟩) (fun E hp1 ψ => Or.inr ?_))
  · refine ci2lE 11 ⟨u371J, _, rfl⟩ rfl (fun w hw => ?_)
    refine clastE 12 φ.1 ⟨u371J, _, rfl⟩ rfl h2 (fun hp2 hH2 F2 J2 => ?_)
    refine cgoto ⟨u371J, _, rfl⟩ ?_
    refine ccst 28 (0) ⟨u371J, _, rfl⟩ rfl (by decide) (fun z9 h9 => ?_)
    exact cret ⟨u371J, _, rfl⟩ (Or.inl rfl) (hR _ _ _ _ (lawI_83 (law_cl hI φ.1 φ.2.1) hH2 F2) (rf_83 F2 (cF_rf φ.2.1 r)) (by rw [φ.2.2.1]; exact h9) (Or.inr ⟨φ.2.2.1, cl_83 F2 φ.2.2.2.1, by rw [J2, hw]; exact φ.2.2.2.2⟩) (by decide) (by decide))
  · obtain ⟨ψ0, ψr, ψc, ψ1, ψ2⟩ := ψ
    rcases ψ2 with ⟨ce, rfl⟩ | ⟨ce, rfl⟩ | ⟨ce, rfl⟩
    · refine ⟨1, 15, 5, 17, rfl, rfl, rfl, rfl, ?_⟩
      refine ccst 18 (1) ⟨u371J, _, rfl⟩ rfl (by decide) (fun z9 h9 => ?_)
      exact cret ⟨u371J, _, rfl⟩ (Or.inl rfl) (hR _ _ _ _ ψ0 ψr (by rw [ce]; exact h9) (Or.inl ⟨ψ1, ψc⟩) (by decide) (by decide))
    · refine ⟨0, 19, 5, 21, rfl, rfl, rfl, rfl, ?_⟩
      refine ccst 22 (2) ⟨u371J, _, rfl⟩ rfl (by decide) (fun z9 h9 => ?_)
      exact cret ⟨u371J, _, rfl⟩ (Or.inl rfl) (hR _ _ _ _ ψ0 ψr (by rw [ce]; exact h9) (Or.inl ⟨ψ1, ψc⟩) (by decide) (by decide))
    · refine ⟨2, 23, 5, 25, rfl, rfl, rfl, rfl, ?_⟩
      refine ccst 26 (3) ⟨u371J, _, rfl⟩ rfl (by decide) (fun z9 h9 => ?_)
      exact cret ⟨u371J, _, rfl⟩ (Or.inl rfl) (hR _ _ _ _ ψ0 ψr (by rw [ce]; exact h9) (Or.inl ⟨ψ1, ψc⟩) (by decide) (by decide))
end
/-! ##### q45 ##### -/
section
/-! ===== turns that keep the system ===== -/
theorem hC_gap {σ : Nat → Nat} {T : sT} (a : Nat) : ∀ b, hC σ T (a + b) + (trL T a).length ≤ hC σ T a + (trL T (a + b)).length
  | 0 => Nat.le_refl _
  | b + 1 => by
    have ih := hC_gap (σ := σ) (T := T) a b
    have e : (trL T (a + (b + 1))) = (if trB T (a + b) = true then trL T (a + b) ++ [a + b] else trL T (a + b)) := rfl
    rw [e]
    show hC σ T (a + b) + (if trB T (a + b) = true ∧ T (σ ((a + b) / 15)) (σ ((a + b) % 15)) = ((σ (T ((a + b) / 15) ((a + b) % 15)).toNat : Nat) : Int) then 1 else 0) + (trL T a).length ≤ _
    by_cases h : trB T (a + b) = true
    · rw [if_pos h, List.length_append, List.length_singleton]
      split <;> omega
    · rw [if_neg h, if_neg (fun z => h z.1)]
      omega
def tkB (V k : Nat) (T : sT) : Bool := decide (hC (tn V k) T 225 = (trL T 225).length)
def tkV (V k : Nat) (T : sT) : Int := if tkB V k T = true then 1 else 0
theorem tkV_y {V k : Nat} {T : sT} (h : hC (tn V k) T 225 = (trL T 225).length) : tkV V k T = 1 := if_pos (decide_eq_true h)
theorem tkV_n {V k : Nat} {T : sT} (h : ¬ hC (tn V k) T 225 = (trL T 225).length) : tkV V k T = 0 := if_neg (fun z => h (of_decide_eq_true z))
theorem tkV_01 {V k : Nat} {T : sT} : tkV V k T = 0 ∨ tkV V k T = 1 := by unfold tkV; split <;> simp
theorem tk_no {σ : Nat → Nat} {T : sT} {n t : Nat} (hn : n < 225) (e1 : (trL T (n + 1)).length = t + 1) (e2 : hC σ T (n + 1) = t) : ¬ hC σ T 225 = (trL T 225).length := by
  have g := hC_gap (σ := σ) (T := T) (n + 1) (225 - (n + 1))
  rw [show n + 1 + (225 - (n + 1)) = 225 by omega] at g
  omega
theorem tn_0 {V p : Nat} (h : p < V) : tn V 0 p = p := by unfold tn; rw [Nat.add_zero, Nat.mod_eq_of_lt h]
theorem hC_id {V : Nat} {T : sT} (hT : sOk V T) : ∀ m, hC (tn V 0) T m = (trL T m).length
  | 0 => rfl
  | m + 1 => by
    have ih := hC_id hT m
    have e : (trL T (m + 1)) = (if trB T m = true then trL T m ++ [m] else trL T m) := rfl
    rw [e]
    show hC (tn V 0) T m + (if trB T m = true ∧ T (tn V 0 (m / 15)) (tn V 0 (m % 15)) = ((tn V 0 (T (m / 15) (m % 15)).toNat : Nat) : Int) then 1 else 0) = _
    by_cases h : trB T m = true
    · obtain ⟨z, h1, h2, h3, h4⟩ := tr_pts hT h
      have c : T (tn V 0 (m / 15)) (tn V 0 (m % 15)) = ((tn V 0 (T (m / 15) (m % 15)).toNat : Nat) : Int) := by
        rw [h1, Int.toNat_natCast, tn_0 (show m / 15 < V by omega), tn_0 (show m % 15 < V by omega), tn_0 h4]
        exact h1
      rw [if_pos h, List.length_append, List.length_singleton, if_pos ⟨h, c⟩, ih]
    · rw [if_neg h, if_neg (fun z => h z.1), ih, Nat.add_zero]
theorem tk_0 {V : Nat} {T : sT} (hT : sOk V T) : tkV V 0 T = 1 := tkV_y (hC_id hT 225)
theorem u29 : bUp 0 am_m29.1 = true := by decide +kernel
theorem l29E {d V x : Nat} {T : sT} {hp : amH} {R : xQ} {a : Int32} (hH : bHk 84 bTT hp) (hB : bdOk hp 3 V T) (hL : lsN hp 3 T 225) (ha : a.toInt = (x : Int)) (hx : x < V)
    (hR : ∀ z : Int32, z.toInt = tkV V x T → R (.inl (some (.int z))) hp) :
    ∀ (jj t m : Nat) (wt : Int32), wt.toInt = (t : Int) → t + jj = (trL T 225).length → (trL T m).length = t → hC (tn V x) T m = t → xV (d + 3) am_m29 2 [some (.ref 3), some (.int a), some (.int wt)] [] hp R := by
  have hT := hB.2.1
  have b0 : rN hp 3 0 = (V : Int) := hB.1
  have b1 : rN hp 3 1 = (((trL T 225).length : Nat) : Int) := hL.1
  have hV := hT.2.1
  have l35 := trL_35 hT 225
  have hs := sPm_tn hx
  intro jj
  induction jj with
  | zero =>
    intro t m wt hwt hj hm hw
    have eC : hC (tn V x) T m = hC (tn V x) T 225 := hC_eq (by omega)
    refine xild 3 ⟨u29, _, rfl⟩ rfl rfl ?_
    refine xald 4 ⟨u29, _, rfl⟩ rfl rfl ?_
    refine xgetC 7 hH ⟨u29, _, rfl⟩ rfl (by decide) (by decide) rfl rfl (by decide) (fun z4 h4 => ?_)
    refine xcmp_ge 10 ⟨u29, _, rfl⟩ rfl (fun c7 => ?_) (fun c7 => ?_)
    · refine xcst 39 (1) ⟨u29, _, rfl⟩ rfl (by decide) (fun z38 h38 => ?_)
      exact xretB ⟨u29, _, rfl⟩ rfl (by omega) (hR _ (by rw [tkV_y (by omega)]; omega))
    · omega
  | succ jj ih =>
    intro t m wt hwt hj hm hw
    obtain ⟨n, u, v, z, q1, q2, q3, q4, q5, -, -, q0, q6, -, -, q9⟩ := mv_next hT hs (t := t) (by omega) hm
    have hn : n < 225 := by have := (trL_get (T := T) 225 t (by omega)).2.1; rw [q0] at this; exact this
    have bu := hs.1 u (by omega)
    have bv := hs.1 v (by omega)
    have bz := hs.1 z (by omega)
    have nuv : ¬ tn V x u = tn V x v := fun k => by have := hs.2.1 _ _ (by omega) (by omega) k; omega
    have nvz : ¬ tn V x v = tn V x z := fun k => by have := hs.2.1 _ _ (by omega) (by omega) k; omega
    have nuz : ¬ tn V x u = tn V x z := fun k => by have := hs.2.1 _ _ (by omega) (by omega) k; omega
    have ml := (mN_lt hT (show t < (trL T 225).length by omega)).1
    have ex : rotN V x (m3 u v z) = m3 (tn V x u) (tn V x v) (tn V x z) := rot_m3 hV hx (by omega) (by omega) (by omega)
    refine xild 3 ⟨u29, _, rfl⟩ rfl rfl ?_
    refine xald 4 ⟨u29, _, rfl⟩ rfl rfl ?_
    refine xgetC 7 hH ⟨u29, _, rfl⟩ rfl (by decide) (by decide) rfl rfl (by decide) (fun z4 h4 => ?_)
    refine xcmp_ge 10 ⟨u29, _, rfl⟩ rfl (fun c7 => ?_) (fun c7 => ?_)
    · omega
    · refine xald 11 ⟨u29, _, rfl⟩ rfl rfl ?_
      refine xald 12 ⟨u29, _, rfl⟩ rfl rfl ?_
      refine xild 13 ⟨u29, _, rfl⟩ rfl rfl ?_
      refine xcallC 16 (o := 3) [.int _] [.ref 3] hH ⟨u29, _, rfl⟩ rfl rfl (by decide) rfl (by decide) rfl ⟨rfl, rfl, rfl, rfl⟩ rfl (k_setL hH hL (t := t) (by omega) (by omega) (fun z13 h13 => ⟨_, rfl, ?_⟩))
      refine xild 17 ⟨u29, _, rfl⟩ rfl rfl ?_
      refine xald 18 ⟨u29, _, rfl⟩ rfl rfl ?_
      refine xgetC 21 hH ⟨u29, _, rfl⟩ rfl (by decide) (by decide) rfl rfl (by decide) (fun z18 h18 => ?_)
      refine xcallS 24 [.int _, .int _, .int _] [.ref 3] hH ⟨u29, _, rfl⟩ rfl rfl rfl rfl rfl (k_rot h13 ml ha (by omega) hx hV (fun z21 h21 => ⟨_, rfl, ?_⟩))
      rw [q1, ex] at h21
      refine xcallC 27 (o := 3) [.int _] [] hH ⟨u29, _, rfl⟩ rfl rfl (by decide) rfl (by decide) rfl ⟨rfl, rfl, rfl, rfl⟩ rfl (k_hld (o := 3) (Or.inl rfl) hH hB h21 bu bv bz nuv nvz nuz (fun z24 h24 => ⟨_, rfl, ?_⟩))
      refine xif_ne 30 ⟨u29, _, rfl⟩ rfl (fun c27 => ?_) (fun c27 => ?_)
      · refine xinc 35 (1) ⟨u29, _, rfl⟩ rfl rfl rfl (by decide) (by omega) (by omega) (fun z32 h32 => ?_)
        refine xgoto ⟨u29, _, rfl⟩ ?_
        exact ih (t + 1) (n + 1) _ (by omega) (by omega) q6 (by rw [q9, if_pos (by omega)]; omega)
      · refine xcst 31 (0) ⟨u29, _, rfl⟩ rfl (by decide) (fun z30 h30 => ?_)
        exact xretB ⟨u29, _, rfl⟩ rfl (by omega) (hR _ (by rw [tkV_n (tk_no hn q6 (by rw [q9, if_neg (by omega)]; omega))]; omega))
theorem k_29E {d V x : Nat} {T : sT} {hp : amH} {R : xQ} {a : Int32} (hH : bHk 84 bTT hp) (hB : bdOk hp 3 V T) (hL : lsN hp 3 T 225) (ha : a.toInt = (x : Int)) (hx : x < V)
    (hR : ∀ z : Int32, z.toInt = tkV V x T → R (.inl (some (.int z))) hp) : xK (d + 3) 29 [.ref 3, .int a] hp R := by
  refine xin (M := am_m29) rfl rfl rfl ?_
  refine xcst 1 (0) ⟨u29, _, rfl⟩ rfl (by decide) (fun z0 h0 => ?_)
  refine xist 2 ⟨u29, _, rfl⟩ rfl rfl ?_
  exact l29E hH hB hL ha hx hR (trL T 225).length 0 0 _ (by omega) (by omega) rfl rfl
theorem l235E {d V x : Nat} {T : sT} {hp : amH} {R : xQ} {a : Int32} (hH : bHk 84 bTT hp) (hP : P0 hp) (hB : rdOk hp V T) (hL : rlN hp T 225) (ha : a.toInt = (x : Int)) (hx : x < V)
    (hR : ∀ z : Int32, z.toInt = tkV V x T → R (.inl (some (.int z))) hp) :
    ∀ (jj t m : Nat) (w wt : Int32), wt.toInt = (t : Int) → t + jj = (trL T 225).length → (trL T m).length = t → ((w.toInt = 1 ∧ hC (tn V x) T m = t) ∨ (w.toInt = 0 ∧ hC (tn V x) T m < t)) → xV (d + 2) am_m235 4 [some (.ref 66), some (.int a), some (.int w), some (.int wt)] [] hp R := by
  have hT := hB.2.1
  have b1 : rN hp 66 12 = (((trL T 225).length : Nat) : Int) := hL.1
  have hV := hT.2.1
  have l35 := trL_35 hT 225
  have hs := sPm_tn hx
  intro jj
  induction jj with
  | zero =>
    intro t m w wt hwt hj hm hw
    have eC : hC (tn V x) T m = hC (tn V x) T 225 := hC_eq (by omega)
    refine xild 5 ⟨u235, _, rfl⟩ rfl rfl ?_
    refine xald 6 ⟨u235, _, rfl⟩ rfl rfl ?_
    refine xgetI 9 hH ⟨u235, _, rfl⟩ rfl rfl (fun z6 h6 => ?_)
    refine xcmp_ge 12 ⟨u235, _, rfl⟩ rfl (fun c9 => ?_) (fun c9 => ?_)
    · refine xild 69 ⟨u235, _, rfl⟩ rfl rfl ?_
      rcases hw with ⟨hw, he⟩ | ⟨hw, he⟩
      · exact xretB ⟨u235, _, rfl⟩ rfl (Or.inr hw) (hR _ (by rw [tkV_y (by omega)]; exact hw))
      · exact xretB ⟨u235, _, rfl⟩ rfl (Or.inl hw) (hR _ (by rw [tkV_n (by omega)]; exact hw))
    · omega
  | succ jj ih =>
    intro t m w wt hwt hj hm hw
    obtain ⟨n, u, v, z, q1, q2, q3, q4, q5, -, -, q0, q6, -, -, q9⟩ := mv_next hT hs (t := t) (by omega) hm
    have hn : n < 225 := by have := (trL_get (T := T) 225 t (by omega)).2.1; rw [q0] at this; exact this
    have bu := hs.1 u (by omega)
    have bv := hs.1 v (by omega)
    have bz := hs.1 z (by omega)
    have nuv : ¬ tn V x u = tn V x v := fun k => by have := hs.2.1 _ _ (by omega) (by omega) k; omega
    have nvz : ¬ tn V x v = tn V x z := fun k => by have := hs.2.1 _ _ (by omega) (by omega) k; omega
    have nuz : ¬ tn V x u = tn V x z := fun k => by have := hs.2.1 _ _ (by omega) (by omega) k; omega
    obtain ⟨o1, o2, o3⟩ := rl_at hT hL (t := t) (by omega) q1 q2 q3
    refine xild 5 ⟨u235, _, rfl⟩ rfl rfl ?_
    refine xald 6 ⟨u235, _, rfl⟩ rfl rfl ?_
    refine xgetI 9 hH ⟨u235, _, rfl⟩ rfl rfl (fun z6 h6 => ?_)
    refine xcmp_ge 12 ⟨u235, _, rfl⟩ rfl (fun c9 => ?_) (fun c9 => ?_)
    · omega
    · refine xild 13 ⟨u235, _, rfl⟩ rfl rfl ?_
      refine xif_eq 16 ⟨u235, _, rfl⟩ rfl (fun c13 => ?_) (fun c13 => ?_)
      · refine xcst 61 (0) ⟨u235, _, rfl⟩ rfl (by decide) (fun z60 h60 => ?_)
        refine xist 62 ⟨u235, _, rfl⟩ rfl rfl ?_
        refine xinc 65 (1) ⟨u235, _, rfl⟩ rfl rfl rfl (by decide) (by omega) (by omega) (fun z62 h62 => ?_)
        refine xgoto ⟨u235, _, rfl⟩ ?_
        refine ih (t + 1) (n + 1) _ _ (by omega) (by omega) q6 (Or.inr ⟨by omega, ?_⟩)
        rw [q9]
        split <;> omega
      · refine xald 17 ⟨u235, _, rfl⟩ rfl rfl ?_
        refine xald 18 ⟨u235, _, rfl⟩ rfl rfl ?_
        refine xald 19 ⟨u235, _, rfl⟩ rfl rfl ?_
        refine xgetR 22 72 hH ⟨u235, _, rfl⟩ rfl rfl ?_
        refine xild 23 ⟨u235, _, rfl⟩ rfl rfl ?_
        refine xiald 24 (wt).toInt.toNat hH ⟨u235, _, rfl⟩ rfl (by decide) rfl (by omega) (by omega) (fun z23 h23 => ?_)
        refine xild 25 ⟨u235, _, rfl⟩ rfl rfl ?_
        refine xcall 28 [.ref 66, .int _, .int _] [.ref 66] hH ⟨u235, _, rfl⟩ rfl rfl rfl rfl rfl (k_rtrn hH hP hB (x := u) (k := x) (by rw [h23, show wt.toInt.toNat = t by omega]; exact o1) ha (by omega) hx (fun z25 h25 => ⟨_, rfl, ?_⟩))
        have h25 : z25.toInt = ((tn V x u : Nat) : Int) := h25
        refine xald 29 ⟨u235, _, rfl⟩ rfl rfl ?_
        refine xald 30 ⟨u235, _, rfl⟩ rfl rfl ?_
        refine xgetR 33 73 hH ⟨u235, _, rfl⟩ rfl rfl ?_
        refine xild 34 ⟨u235, _, rfl⟩ rfl rfl ?_
        refine xiald 35 (wt).toInt.toNat hH ⟨u235, _, rfl⟩ rfl (by decide) rfl (by omega) (by omega) (fun z34 h34 => ?_)
        refine xild 36 ⟨u235, _, rfl⟩ rfl rfl ?_
        refine xcall 39 [.ref 66, .int _, .int _] [.int _, .ref 66] hH ⟨u235, _, rfl⟩ rfl rfl rfl rfl rfl (k_rtrn hH hP hB (x := v) (k := x) (by rw [h34, show wt.toInt.toNat = t by omega]; exact o2) ha (by omega) hx (fun z36 h36 => ⟨_, rfl, ?_⟩))
        have h36 : z36.toInt = ((tn V x v : Nat) : Int) := h36
        refine xcall 42 [.ref 66, .int _, .int _] [] hH ⟨u235, _, rfl⟩ rfl rfl rfl rfl rfl (k_third hH (by omega) (by omega) (by omega) (by omega) (fun z39 h39 => ⟨_, rfl, ?_⟩))
        have h39 : z39.toInt = T (tn V x u) (tn V x v) := by
          rw [h39, show z25.toInt.toNat = tn V x u by omega, show z36.toInt.toNat = tn V x v by omega]
          exact hB.2.2.1 _ _ (by omega) (by omega)
        refine xald 43 ⟨u235, _, rfl⟩ rfl rfl ?_
        refine xald 44 ⟨u235, _, rfl⟩ rfl rfl ?_
        refine xgetR 47 74 hH ⟨u235, _, rfl⟩ rfl rfl ?_
        refine xild 48 ⟨u235, _, rfl⟩ rfl rfl ?_
        refine xiald 49 (wt).toInt.toNat hH ⟨u235, _, rfl⟩ rfl (by decide) rfl (by omega) (by omega) (fun z48 h48 => ?_)
        refine xild 50 ⟨u235, _, rfl⟩ rfl rfl ?_
        refine xcall 53 [.ref 66, .int _, .int _] [.int _] hH ⟨u235, _, rfl⟩ rfl rfl rfl rfl rfl (k_rtrn hH hP hB (x := z) (k := x) (by rw [h48, show wt.toInt.toNat = t by omega]; exact o3) ha (by omega) hx (fun z50 h50 => ⟨_, rfl, ?_⟩))
        have h50 : z50.toInt = ((tn V x z : Nat) : Int) := h50
        refine xcmp_ne 56 ⟨u235, _, rfl⟩ rfl (fun c53 => ?_) (fun c53 => ?_)
        · refine xcst 61 (0) ⟨u235, _, rfl⟩ rfl (by decide) (fun z60 h60 => ?_)
          refine xist 62 ⟨u235, _, rfl⟩ rfl rfl ?_
          refine xinc 65 (1) ⟨u235, _, rfl⟩ rfl rfl rfl (by decide) (by omega) (by omega) (fun z62 h62 => ?_)
          refine xgoto ⟨u235, _, rfl⟩ ?_
          refine ih (t + 1) (n + 1) _ _ (by omega) (by omega) q6 (Or.inr ⟨by omega, ?_⟩)
          rw [q9]
          split <;> omega
        · refine xcst 57 (1) ⟨u235, _, rfl⟩ rfl (by decide) (fun z56 h56 => ?_)
          refine xgoto ⟨u235, _, rfl⟩ ?_
          refine xist 62 ⟨u235, _, rfl⟩ rfl rfl ?_
          refine xinc 65 (1) ⟨u235, _, rfl⟩ rfl rfl rfl (by decide) (by omega) (by omega) (fun z62 h62 => ?_)
          refine xgoto ⟨u235, _, rfl⟩ ?_
          refine ih (t + 1) (n + 1) _ _ (by omega) (by omega) q6 (Or.inl ⟨by omega, ?_⟩)
          rw [q9, if_pos (by omega)]
          omega
theorem k_235E {d V x : Nat} {T : sT} {hp : amH} {R : xQ} {a : Int32} (hH : bHk 84 bTT hp) (hP : P0 hp) (hB : rdOk hp V T) (hL : rlN hp T 225) (ha : a.toInt = (x : Int)) (hx : x < V)
    (hR : ∀ z : Int32, z.toInt = tkV V x T → R (.inl (some (.int z))) hp) : xK (d + 2) 235 [.ref 66, .int a] hp R := by
  refine xin (M := am_m235) rfl rfl rfl ?_
  refine xcst 1 (1) ⟨u235, _, rfl⟩ rfl (by decide) (fun z0 h0 => ?_)
  refine xist 2 ⟨u235, _, rfl⟩ rfl rfl ?_
  refine xcst 3 (0) ⟨u235, _, rfl⟩ rfl (by decide) (fun z2 h2 => ?_)
  refine xist 4 ⟨u235, _, rfl⟩ rfl rfl ?_
  exact l235E hH hP hB hL ha hx hR (trL T 225).length 0 0 _ _ (by omega) (by omega) rfl (Or.inl ⟨by omega, rfl⟩)
end
/-! ##### q45b ##### -/
section
/-! ===== isTurned on both sides ===== -/
theorem u156 : bUp 0 am_m156.1 = true := by decide +kernel
theorem k_156E {d V n : Nat} {h : Nat → sR} {sv : Option sR} {T : sT} {ty : Nat → Int} {hp : amH} {R : xQ} {k : Int32} (hH : bHk 84 bTT hp) (hS : clS hp (V, T, ty) n h sv)
    (hR : ∀ (z : Int32) hp1, bHk 84 bTT hp1 → cF hp hp1 → clS hp1 (V, T, ty) n h sv → z.toInt = tkV V (bv k.toInt (V : Int)).toNat T → R (.inl (some (.int z))) hp1) : xK (d + 4) 156 [.ref 0, .int k] hp R := by
  have hB : bdOk hp 3 V T := hS.1
  have b0 : rN hp 3 0 = (V : Int) := hB.1
  have hL : lsN hp 3 T 225 := hS.2.1
  have b1 : rN hp 3 1 = (((trL T 225).length : Nat) : Int) := hL.1
  have hT0 : sOk V T := hB.2.1
  have h15 : V ≤ 15 := hT0.2.1
  have l35 : (trL T 225).length ≤ 35 := trL_35 hT0 225
  have nq0 : rN hp 49 0 = ((nQ T : Nat) : Int) := hS.2.2.1.1
  have bi := bv_in (k := k.toInt) (p := (V : Int)) (by have := hT0.1; omega)
  refine xin (M := am_m156) rfl rfl rfl ?_
  refine xald 1 ⟨u156, _, rfl⟩ rfl rfl ?_
  refine xgetD 4 (3) hH ⟨u156, _, rfl⟩ rfl (by decide) (by decide) rfl rfl (by decide) ?_
  refine xald 5 ⟨u156, _, rfl⟩ rfl rfl ?_
  refine xgetD 8 (3) hH ⟨u156, _, rfl⟩ rfl (by decide) (by decide) rfl rfl (by decide) ?_
  refine xild 9 ⟨u156, _, rfl⟩ rfl rfl ?_
  refine xcallC 12 (o := 3) [.int _] [.ref 3] hH ⟨u156, _, rfl⟩ rfl rfl (by decide) rfl (by decide) rfl ⟨rfl, rfl, rfl, rfl⟩ rfl (k_twn hH b0 hT0.1 h15 (fun z9 h9 => ⟨_, rfl, ?_⟩))
  refine xcallC 15 (o := 3) [.int _] [] hH ⟨u156, _, rfl⟩ rfl rfl (by decide) rfl (by decide) rfl ⟨rfl, rfl, rfl, rfl⟩ rfl (k_29E hH hB hL (x := (bv k.toInt (V : Int)).toNat) (by omega) (by omega) (fun z12 h12 => ⟨_, rfl, ?_⟩))
  have j12 := tkV_01 (V := V) (k := (bv k.toInt (V : Int)).toNat) (T := T)
  exact xretB ⟨u156, _, rfl⟩ rfl (by omega) (hR _ _ hH cF.refl hS h12)
theorem u321 : bUp 0 am_m321.1 = true := by decide +kernel
theorem k_321E {d V n : Nat} {h : Nat → sR} {sv : Option sR} {T : sT} {ty : Nat → Int} {hp : amH} {R : xQ} {k : Int32} (hH : bHk 84 bTT hp) (hP : P0 hp) (hS : rfS hp (V, T, ty) n h sv)
    (hR : ∀ (z : Int32) hp1, bHk 84 bTT hp1 → P0 hp1 → bFr wM hp hp1 → rfS hp1 (V, T, ty) n h sv → z.toInt = tkV V (bv k.toInt (V : Int)).toNat T → R (.inl (some (.int z))) hp1) : xK (d + 3) 321 [.ref 66, .int k] hp R := by
  have hB : rdOk hp V T := rowOk_rd hS.1
  have b0 : rN hp 67 0 = (V : Int) := hB.1
  have hT0 : sOk V T := hB.2.1
  have h15 : V ≤ 15 := hT0.2.1
  have l35 : (trL T 225).length ≤ 35 := trL_35 hT0 225
  have bi := bv_in (k := k.toInt) (p := (V : Int)) (by have := hT0.1; omega)
  refine xin (M := am_m321) rfl rfl rfl ?_
  refine xald 1 ⟨u321, _, rfl⟩ rfl rfl ?_
  refine xcst 2 (0) ⟨u321, _, rfl⟩ rfl (by decide) (fun z1 h1 => ?_)
  refine xputI 5 hH ⟨u321, _, rfl⟩ rfl rfl ⟨rfl, rfl⟩ (by omega) (by omega) (fun hp2 hH2 U2 => ?_)
  have s2 := U2.1
  have S2 := rfS_W (W := [(66, 7)]) hS (rU_fr U2 rfl) (fun _ => rfl) rfl rfl (fun _ => rfl) (fun _ => rfl)
  have P2 := P0_W (W := [(66, 7)]) (by decide) (rU_fr U2 rfl) hP
  have B2 : rdOk hp2 V T := rowOk_rd S2.1
  refine xald 6 ⟨u321, _, rfl⟩ rfl rfl ?_
  refine xcall 9 [.ref 66] [] hH2 ⟨u321, _, rfl⟩ rfl rfl rfl rfl rfl (k_rlst hH2 B2 (fun hp6 hH6 F6 B6 L6 => ⟨_, rfl, ?_⟩))
  have P6 := P0_W (W := bLT) (by decide) F6 P2
  refine xald 10 ⟨u321, _, rfl⟩ rfl rfl ?_
  refine xald 11 ⟨u321, _, rfl⟩ rfl rfl ?_
  refine xild 12 ⟨u321, _, rfl⟩ rfl rfl ?_
  refine xcall 15 [.ref 66, .int _] [.ref 66] hH6 ⟨u321, _, rfl⟩ rfl rfl rfl rfl rfl (k_by hH6 P6 (fun z12 h12 => ⟨_, rfl, ?_⟩))
  rw [B6.1] at h12
  refine xcall 18 [.ref 66, .int _] [] hH6 ⟨u321, _, rfl⟩ rfl rfl rfl rfl rfl (k_235E hH6 P6 B6 L6 (x := (bv k.toInt (V : Int)).toNat) (by omega) (by omega) (fun z15 h15 => ⟨_, rfl, ?_⟩))
  have j15 := tkV_01 (V := V) (k := (bv k.toInt (V : Int)).toNat) (T := T)
  exact xretB ⟨u321, _, rfl⟩ rfl (by omega) (hR _ hp6 hH6 P6 ((rU_fr U2 (by decide)).trans (bFr_sub F6 (by decide))) (rfS_W S2 F6 (fun _ => rfl) rfl rfl (fun _ => rfl) (fun _ => rfl)) h15)
end
/-! ##### q46 ##### -/
section
/-! ===== the least turn that keeps the system ===== -/
def lkF (V : Nat) (T : sT) : Nat → Nat → Nat
  | 0, k => k
  | f + 1, k => if tkV V k T = 1 then k else lkF V T f (k + 1)
def lkV (V : Nat) (T : sT) : Nat := lkF V T (V - 1) 1
theorem lkF_in {V : Nat} {T : sT} : ∀ f k, k ≤ lkF V T f k ∧ lkF V T f k ≤ k + f
  | 0, k => ⟨Nat.le_refl _, Nat.le_refl _⟩
  | f + 1, k => by
    have ih := lkF_in (V := V) (T := T) f (k + 1)
    unfold lkF
    split <;> omega
theorem u30 : bUp 0 am_m30.1 = true := by decide +kernel
theorem l30E {d V x : Nat} {T : sT} {hp : amH} {R : xQ} (hH : bHk 84 bTT hp) (hB : bdOk hp 3 V T) (hL : lsN hp 3 T 225)
    (hR : ∀ z : Int32, z.toInt = (x : Int) → R (.inl (some (.int z))) hp) :
    ∀ (jj t : Nat) (wt : Int32), wt.toInt = (t : Int) → t + jj = V → lkF V T jj t = x → xV (d + 4) am_m30 2 [some (.ref 3), some (.int wt)] [] hp R := by
  have hT := hB.2.1
  have b0 : rN hp 3 0 = (V : Int) := hB.1
  have hV := hT.2.1
  intro jj
  induction jj with
  | zero =>
    intro t wt hwt hj hx
    have hx : t = x := hx
    refine xild 3 ⟨u30, _, rfl⟩ rfl rfl ?_
    refine xald 4 ⟨u30, _, rfl⟩ rfl rfl ?_
    refine xgetC 7 hH ⟨u30, _, rfl⟩ rfl (by decide) (by decide) rfl rfl (by decide) (fun z4 h4 => ?_)
    refine xcmp_ge 10 ⟨u30, _, rfl⟩ rfl (fun c7 => ?_) (fun c7 => ?_)
    · refine xald 27 ⟨u30, _, rfl⟩ rfl rfl ?_
      refine xgetC 30 hH ⟨u30, _, rfl⟩ rfl (by decide) (by decide) rfl rfl (by decide) (fun z27 h27 => ?_)
      exact xret ⟨u30, _, rfl⟩ rfl (hR _ (by omega))
    · omega
  | succ jj ih =>
    intro t wt hwt hj hx
    unfold lkF at hx
    have j01 := tkV_01 (V := V) (k := t) (T := T)
    refine xild 3 ⟨u30, _, rfl⟩ rfl rfl ?_
    refine xald 4 ⟨u30, _, rfl⟩ rfl rfl ?_
    refine xgetC 7 hH ⟨u30, _, rfl⟩ rfl (by decide) (by decide) rfl rfl (by decide) (fun z4 h4 => ?_)
    refine xcmp_ge 10 ⟨u30, _, rfl⟩ rfl (fun c7 => ?_) (fun c7 => ?_)
    · omega
    · refine xald 11 ⟨u30, _, rfl⟩ rfl rfl ?_
      refine xild 12 ⟨u30, _, rfl⟩ rfl rfl ?_
      refine xcallC 15 (o := 3) [.int _] [] hH ⟨u30, _, rfl⟩ rfl rfl (by decide) rfl (by decide) rfl ⟨rfl, rfl, rfl, rfl⟩ rfl (k_29E hH hB hL (x := t) (by omega) (by omega) (fun z12 h12 => ⟨_, rfl, ?_⟩))
      refine xif_eq 18 ⟨u30, _, rfl⟩ rfl (fun c15 => ?_) (fun c15 => ?_)
      · rw [if_neg (by omega)] at hx
        refine xinc 23 (1) ⟨u30, _, rfl⟩ rfl rfl rfl (by decide) (by omega) (by omega) (fun z20 h20 => ?_)
        refine xgoto ⟨u30, _, rfl⟩ ?_
        exact ih (t + 1) _ (by omega) (by omega) hx
      · rw [if_pos (by omega)] at hx
        refine xild 19 ⟨u30, _, rfl⟩ rfl rfl ?_
        exact xret ⟨u30, _, rfl⟩ rfl (hR _ (by omega))
theorem k_30E {d V : Nat} {T : sT} {hp : amH} {R : xQ} (hH : bHk 84 bTT hp) (hB : bdOk hp 3 V T) (hL : lsN hp 3 T 225)
    (hR : ∀ z : Int32, z.toInt = ((lkV V T : Nat) : Int) → R (.inl (some (.int z))) hp) : xK (d + 4) 30 [.ref 3] hp R := by
  have h3 := hB.2.1.1
  refine xin (M := am_m30) rfl rfl rfl ?_
  refine xcst 1 (1) ⟨u30, _, rfl⟩ rfl (by decide) (fun z0 h0 => ?_)
  refine xist 2 ⟨u30, _, rfl⟩ rfl rfl ?_
  exact l30E hH hB hL hR (V - 1) 1 _ (by omega) (by omega) rfl
theorem l236E {d V x : Nat} {T : sT} {hp : amH} {R : xQ} (hH : bHk 84 bTT hp) (hP : P0 hp) (hB : rdOk hp V T) (hL : rlN hp T 225)
    (hR : ∀ z : Int32, z.toInt = (x : Int) → R (.inl (some (.int z))) hp) :
    ∀ (jj t : Nat) (wt : Int32), wt.toInt = (t : Int) → t + jj = V → lkF V T jj t = x → xV (d + 3) am_m236 6 [some (.ref 66), some (.int wt)] [] hp R := by
  have hT := hB.2.1
  have b0 : rN hp 67 0 = (V : Int) := hB.1
  have hV := hT.2.1
  have hV3 := hT.1
  intro jj
  induction jj with
  | zero =>
    intro t wt hwt hj hx
    have hx : t = x := hx
    have j1 := tk_0 hT
    refine xald 7 ⟨u236, _, rfl⟩ rfl rfl ?_
    refine xild 8 ⟨u236, _, rfl⟩ rfl rfl ?_
    refine xald 9 ⟨u236, _, rfl⟩ rfl rfl ?_
    refine xcall 12 [.ref 66] [.int _, .ref 66] hH ⟨u236, _, rfl⟩ rfl rfl rfl rfl rfl (k_points hH (fun z9 h9 => ⟨_, rfl, ?_⟩))
    refine xrem 13 (_) ⟨u236, _, rfl⟩ rfl (by omega) (by omega) (rfl) (fun z12 h12 => ?_)
    have e12 : z12.toInt = (t : Int) % (V : Int) := by rw [h12, hwt, h9, b0]
    rw [show t = V by omega, Int.emod_self] at e12
    refine xcall 16 [.ref 66, .int _] [] hH ⟨u236, _, rfl⟩ rfl rfl rfl rfl rfl (k_235E hH hP hB hL (x := 0) (by omega) (by omega) (fun z13 h13 => ⟨_, rfl, ?_⟩))
    refine xif_ne 19 ⟨u236, _, rfl⟩ rfl (fun c16 => ?_) (fun c16 => ?_)
    · refine xild 26 ⟨u236, _, rfl⟩ rfl rfl ?_
      exact xret ⟨u236, _, rfl⟩ rfl (hR _ (by omega))
    · omega
  | succ jj ih =>
    intro t wt hwt hj hx
    unfold lkF at hx
    have j01 := tkV_01 (V := V) (k := t) (T := T)
    refine xald 7 ⟨u236, _, rfl⟩ rfl rfl ?_
    refine xild 8 ⟨u236, _, rfl⟩ rfl rfl ?_
    refine xald 9 ⟨u236, _, rfl⟩ rfl rfl ?_
    refine xcall 12 [.ref 66] [.int _, .ref 66] hH ⟨u236, _, rfl⟩ rfl rfl rfl rfl rfl (k_points hH (fun z9 h9 => ⟨_, rfl, ?_⟩))
    refine xrem 13 (_) ⟨u236, _, rfl⟩ rfl (by omega) (by omega) (rfl) (fun z12 h12 => ?_)
    have e12 : z12.toInt = (t : Int) % (V : Int) := by rw [h12, hwt, h9, b0]
    rw [Int.emod_eq_of_lt (by omega) (by omega)] at e12
    refine xcall 16 [.ref 66, .int _] [] hH ⟨u236, _, rfl⟩ rfl rfl rfl rfl rfl (k_235E hH hP hB hL (x := t) (by omega) (by omega) (fun z13 h13 => ⟨_, rfl, ?_⟩))
    refine xif_ne 19 ⟨u236, _, rfl⟩ rfl (fun c16 => ?_) (fun c16 => ?_)
    · rw [if_pos (by omega)] at hx
      refine xild 26 ⟨u236, _, rfl⟩ rfl rfl ?_
      exact xret ⟨u236, _, rfl⟩ rfl (hR _ (by omega))
    · rw [if_neg (by omega)] at hx
      refine xinc 22 (1) ⟨u236, _, rfl⟩ rfl rfl rfl (by decide) (by omega) (by omega) (fun z19 h19 => ?_)
      refine xgoto ⟨u236, _, rfl⟩ ?_
      exact ih (t + 1) _ (by omega) (by omega) hx
theorem k_236E {d V : Nat} {T : sT} {hp : amH} {R : xQ} (hH : bHk 84 bTT hp) (hP : P0 hp) (hB : rdOk hp V T)
    (hR : ∀ (z : Int32) hp1, bHk 84 bTT hp1 → bFr bLT hp hp1 → rdOk hp1 V T → rlN hp1 T 225 → z.toInt = ((lkV V T : Nat) : Int) → R (.inl (some (.int z))) hp1) : xK (d + 4) 236 [.ref 66] hp R := by
  have h3 := hB.2.1.1
  refine xin (M := am_m236) rfl rfl rfl ?_
  refine xald 1 ⟨u236, _, rfl⟩ rfl rfl ?_
  refine xcall 4 [.ref 66] [] hH ⟨u236, _, rfl⟩ rfl rfl rfl rfl rfl (k_rlst hH hB (fun hp1 hH1 F1 B1 L1 => ⟨_, rfl, ?_⟩))
  have P1 := P0_W (W := bLT) (by decide) F1 hP
  refine xcst 5 (1) ⟨u236, _, rfl⟩ rfl (by decide) (fun z4 h4 => ?_)
  refine xist 6 ⟨u236, _, rfl⟩ rfl rfl ?_
  exact l236E hH1 P1 B1 L1 (fun z e => hR z hp1 hH1 F1 B1 L1 e) (V - 1) 1 _ (by omega) (by omega) rfl
theorem u157 : bUp 0 am_m157.1 = true := by decide +kernel
theorem k_157E {d V n : Nat} {h : Nat → sR} {sv : Option sR} {T : sT} {ty : Nat → Int} {hp : amH} {R : xQ} (hH : bHk 84 bTT hp) (hS : clS hp (V, T, ty) n h sv)
    (hR : ∀ (z : Int32) hp1, bHk 84 bTT hp1 → cF hp hp1 → clS hp1 (V, T, ty) n h sv → z.toInt = ((lkV V T : Nat) : Int) → R (.inl (some (.int z))) hp1) : xK (d + 5) 157 [.ref 0] hp R := by
  have hB : bdOk hp 3 V T := hS.1
  have b0 : rN hp 3 0 = (V : Int) := hB.1
  have hL : lsN hp 3 T 225 := hS.2.1
  have b1 : rN hp 3 1 = (((trL T 225).length : Nat) : Int) := hL.1
  have hT0 : sOk V T := hB.2.1
  have h15 : V ≤ 15 := hT0.2.1
  have l35 : (trL T 225).length ≤ 35 := trL_35 hT0 225
  have nq0 : rN hp 49 0 = ((nQ T : Nat) : Int) := hS.2.2.1.1
  refine xin (M := am_m157) rfl rfl rfl ?_
  refine xald 1 ⟨u157, _, rfl⟩ rfl rfl ?_
  refine xgetD 4 (3) hH ⟨u157, _, rfl⟩ rfl (by decide) (by decide) rfl rfl (by decide) ?_
  refine xcallC 7 (o := 3) [] [] hH ⟨u157, _, rfl⟩ rfl rfl (by decide) rfl (by decide) rfl ⟨rfl, rfl, rfl, rfl⟩ rfl (k_30E hH hB hL (fun z4 h4 => ⟨_, rfl, ?_⟩))
  exact xret ⟨u157, _, rfl⟩ rfl (hR _ _ hH cF.refl hS h4)
theorem k_322E {d V n : Nat} {h : Nat → sR} {sv : Option sR} {T : sT} {ty : Nat → Int} {hp : amH} {R : xQ} (hH : bHk 84 bTT hp) (hP : P0 hp) (hS : rfS hp (V, T, ty) n h sv)
    (hR : ∀ (z : Int32) hp1, bHk 84 bTT hp1 → P0 hp1 → bFr wM hp hp1 → rfS hp1 (V, T, ty) n h sv → z.toInt = ((lkV V T : Nat) : Int) → R (.inl (some (.int z))) hp1) : xK (d + 5) 322 [.ref 66] hp R := by
  have hB : rdOk hp V T := rowOk_rd hS.1
  have b0 : rN hp 67 0 = (V : Int) := hB.1
  have hT0 : sOk V T := hB.2.1
  have h15 : V ≤ 15 := hT0.2.1
  have l35 : (trL T 225).length ≤ 35 := trL_35 hT0 225
  refine xin (M := am_m322) rfl rfl rfl ?_
  refine xald 1 ⟨u322, _, rfl⟩ rfl rfl ?_
  refine xcst 2 (0) ⟨u322, _, rfl⟩ rfl (by decide) (fun z1 h1 => ?_)
  refine xputI 5 hH ⟨u322, _, rfl⟩ rfl rfl ⟨rfl, rfl⟩ (by omega) (by omega) (fun hp2 hH2 U2 => ?_)
  have s2 := U2.1
  have S2 := rfS_W (W := [(66, 7)]) hS (rU_fr U2 rfl) (fun _ => rfl) rfl rfl (fun _ => rfl) (fun _ => rfl)
  have P2 := P0_W (W := [(66, 7)]) (by decide) (rU_fr U2 rfl) hP
  have B2 : rdOk hp2 V T := rowOk_rd S2.1
  refine xald 6 ⟨u322, _, rfl⟩ rfl rfl ?_
  refine xcall 9 [.ref 66] [] hH2 ⟨u322, _, rfl⟩ rfl rfl rfl rfl rfl (k_236E hH2 P2 B2 (fun z6 hp6 hH6 F6 B6 L6 h6 => ⟨_, rfl, ?_⟩))
  have P6 := P0_W (W := bLT) (by decide) F6 P2
  exact xret ⟨u322, _, rfl⟩ rfl (hR _ hp6 hH6 P6 ((rU_fr U2 (by decide)).trans (bFr_sub F6 (by decide))) (rfS_W S2 F6 (fun _ => rfl) rfl rfl (fun _ => rfl) (fun _ => rfl)) h6)
end
/-! ##### q47 ##### -/
section
/-! ===== orbits of triples on both sides ===== -/
theorem j_shr {x : Int64} {c : Int32} {m k : Nat} (hx : x.toInt = (m : Int)) (hc : c.toInt = (k : Int)) (hk : k < 62) : (x >>> (c.toInt64 &&& 63)).toInt = ((m >>> k : Nat) : Int) := by
  obtain ⟨e1, l1⟩ := jN_t hx
  have e2 : (c.toInt64 &&& 63).toBitVec.smod 64 = BitVec.ofNat 64 k := by
    have : c = Int32.ofNat k := Int32.toInt_inj.mp (by rw [hc, Int32.toInt_ofNat_of_lt (by omega)])
    rw [this]
    exact j_sh ⟨k, hk⟩
  have hm : x.toBitVec.msb = false := by
    rw [BitVec.msb_eq_false_iff_two_mul_lt]
    unfold jN at e1
    omega
  have h3 : m >>> k ≤ m := Nat.shiftRight_le m k
  have e3 : jN (x >>> (c.toInt64 &&& 63)) = m >>> k := by
    unfold jN at *
    rw [Int64.toBitVec_shiftRight, e2]
    unfold BitVec.sshiftRight'
    rw [BitVec.sshiftRight_eq_of_msb_false hm, BitVec.toNat_ushiftRight, e1, BitVec.toNat_ofNat, Nat.mod_eq_of_lt (show k < 2 ^ 64 by omega)]
  rw [t_jN (by rw [e3]; omega), e3]
theorem bit_1 {m t : Nat} : m >>> t &&& 1 = (m.testBit t).toNat := by
  rw [Nat.and_one_is_mod, Nat.shiftRight_eq_div_pow, Nat.testBit_eq_decide_div_mod_eq]
  by_cases h : m / 2 ^ t % 2 = 1
  · rw [h]; rfl
  · have : m / 2 ^ t % 2 = 0 := by omega
    rw [this]; rfl
theorem hC_at {σ : Nat → Nat} {T : sT} {n : Nat} (h : hC σ T 225 = (trL T 225).length) (hn : n < 225) (hb : trB T n = true) : T (σ (n / 15)) (σ (n % 15)) = ((σ (T (n / 15) (n % 15)).toNat : Nat) : Int) := by
  apply Classical.byContradiction
  intro g
  have e1 : (trL T (n + 1)).length = (trL T n).length + 1 := by rw [trL_add hb, List.length_append, List.length_singleton]
  have e2 : hC σ T (n + 1) = hC σ T n := by
    show hC σ T n + (if trB T n = true ∧ T (σ (n / 15)) (σ (n % 15)) = ((σ (T (n / 15) (n % 15)).toNat : Nat) : Int) then 1 else 0) = _
    rw [if_neg (fun z => g z.2), Nat.add_zero]
  have g0 := hC_gap (σ := σ) (T := T) 0 n
  rw [Nat.zero_add] at g0
  have g1 : hC σ T 0 = 0 := rfl
  have g2 : (trL T 0).length = 0 := rfl
  have g3 := hC_gap (σ := σ) (T := T) (n + 1) (225 - (n + 1))
  rw [show n + 1 + (225 - (n + 1)) = 225 by omega] at g3
  omega
/-- a turn that keeps each triple keeps each third point -/
theorem au_T {V : Nat} {T : sT} {σ : Nat → Nat} (hT : sOk V T) (hs : sPm V σ) (h : hC σ T 225 = (trL T 225).length) {a b c : Nat} (e : T a b = (c : Int)) : T (σ a) (σ b) = ((σ c : Nat) : Int) := by
  have h1 : ¬ T a b = -1 := by rw [e]; omega
  obtain ⟨g1, g2, g3⟩ := cd_of hT h1
  obtain ⟨z, k1, k2, k3, k4⟩ := tr_pts hT g1
  have q := hC_at h g2 g1
  rw [k1, Int.toNat_natCast] at q
  rw [k1, Int.toNat_natCast] at g3
  have s := sPr_T hT k1 g3
  generalize cd T a b / 15 = x at *
  generalize cd T a b % 15 = y at *
  have nxy : ¬ σ x = σ y := fun w => by have := hs.2.1 _ _ (by omega) (by omega) w; omega
  have nyz : ¬ σ y = σ z := fun w => by have := hs.2.1 _ _ (by omega) (by omega) w; omega
  have nxz : ¬ σ x = σ z := fun w => by have := hs.2.1 _ _ (by omega) (by omega) w; omega
  obtain ⟨d, p1, p2⟩ := g3
  have s2 : sPr (σ x) (σ y) (σ z) (σ a) (σ b) := by
    refine ⟨?_, p1.imp (congrArg σ) (Or.imp (congrArg σ) (congrArg σ)), p2.imp (congrArg σ) (Or.imp (congrArg σ) (congrArg σ))⟩
    intro w
    have ha : a < V := by rcases p1 with p | p | p <;> omega
    have hb : b < V := by rcases p2 with p | p | p <;> omega
    exact d (hs.2.1 _ _ ha hb w)
  have s3 := sPr_T hT q s2
  rw [s3]
  rcases p1 with p1 | p1 | p1 <;> rcases p2 with p2 | p2 | p2 <;>
    first
    | exact absurd (p1.trans p2.symm) d
    | (have e3 : c = z := by omega
       have e1 := congrArg σ p1
       have e2 := congrArg σ p2
       have e4 := congrArg σ e3
       omega)
    | (have e3 : c = y := by omega
       have e1 := congrArg σ p1
       have e2 := congrArg σ p2
       have e4 := congrArg σ e3
       omega)
    | (have e3 : c = x := by omega
       have e1 := congrArg σ p1
       have e2 := congrArg σ p2
       have e4 := congrArg σ e3
       omega)
def oQ (V k i : Nat) : Nat := i * k % V
theorem tn_oQ {V k i p : Nat} : tn V (oQ V k i) p = (p + i * k) % V := by unfold tn oQ; rw [Nat.add_mod_mod]
theorem tn_s {V k i p : Nat} : tn V k (tn V (oQ V k i) p) = tn V (oQ V k (i + 1)) p := by
  rw [tn_oQ, tn_oQ]
  unfold tn
  rw [Nat.mod_add_mod, Nat.succ_mul, Nat.add_assoc]
theorem tn_a {V k i j p : Nat} : tn V (oQ V k j) (tn V (oQ V k i) p) = tn V (oQ V k (i + j)) p := by
  rw [tn_oQ, tn_oQ, tn_oQ, Nat.mod_add_mod, Nat.add_mul, Nat.add_assoc]
theorem oQ_lt {V k i : Nat} (hV : 0 < V) : oQ V k i < V := Nat.mod_lt _ hV
theorem tkV_e {V k : Nat} {T : sT} (h : tkV V k T = 1) : hC (tn V k) T 225 = (trL T 225).length := by
  apply Classical.byContradiction
  intro g
  rw [tkV_n g] at h
  omega
theorem au_I {V k : Nat} {T : sT} (hT : sOk V T) (hk : k < V) (h : tkV V k T = 1) {a b c : Nat} (e : T a b = (c : Int)) (ha : a < V) (hb : b < V) (hc : c < V) : ∀ i, T (tn V (oQ V k i) a) (tn V (oQ V k i) b) = ((tn V (oQ V k i) c : Nat) : Int)
  | 0 => by
    have e0 : oQ V k 0 = 0 := by unfold oQ; rw [Nat.zero_mul, Nat.zero_mod]
    rw [e0, tn_0 ha, tn_0 hb, tn_0 hc]
    exact e
  | i + 1 => by
    have ih := au_I hT hk h e ha hb hc i
    have g := au_T hT (sPm_tn hk) (tkV_e h) ih
    rw [tn_s, tn_s, tn_s] at g
    exact g
theorem mN_p {V : Nat} {T : sT} (hT : sOk V T) {t : Nat} (ht : t < (trL T 225).length) : ∃ x y z : Nat, mN T t = m3 x y z ∧ x < y ∧ y < z ∧ z < V ∧ T x y = (z : Int) := by
  obtain ⟨g1, -, -⟩ := trL_get 225 t ht
  obtain ⟨w, ew, k1, k2, k3⟩ := tr_pts hT g1
  exact ⟨_, _, w, by unfold mN mk3; rw [ew, Int.toNat_natCast], k1, k2, k3, ew⟩
theorem rot_t {V k x y z : Nat} (hV : V ≤ 15) (hk : k < V) (hx : x < V) (hy : y < V) (hz : z < V) : rotN V k (m3 x y z) = m3 (tn V k x) (tn V k y) (tn V k z) := rot_m3 hV hk hx hy hz
/-- the triple behind some turns -/
def oI (V k : Nat) (T : sT) (t i : Nat) : Nat := (nmT T (rotN V (oQ V k i) (mN T t))).toNat
theorem oI_s {V k : Nat} {T : sT} (hT : sOk V T) (hk : k < V) (h : tkV V k T = 1) {t : Nat} (ht : t < (trL T 225).length) (i : Nat) : nmT T (rotN V (oQ V k i) (mN T t)) = ((oI V k T t i : Nat) : Int) ∧ oI V k T t i < (trL T 225).length ∧ mN T (oI V k T t i) = rotN V (oQ V k i) (mN T t) := by
  obtain ⟨x, y, z, q1, q2, q3, q4, q5⟩ := mN_p hT ht
  have hq : oQ V k i < V := oQ_lt (by omega)
  have e := au_I hT hk h q5 (by omega) (by omega) q4 i
  have r : rotN V (oQ V k i) (mN T t) = m3 (tn V (oQ V k i) x) (tn V (oQ V k i) y) (tn V (oQ V k i) z) := by rw [q1]; exact rot_t hT.2.1 hq (by omega) (by omega) q4
  obtain ⟨u, h1, -, h3⟩ := nm_of hT e
  have e2 : oI V k T t i = u := by unfold oI; rw [r, h3, Int.toNat_natCast]
  rw [e2, r]
  exact ⟨h3, h1, (nm_inv h3).2⟩
theorem oI_a {V k : Nat} {T : sT} (hT : sOk V T) (hk : k < V) (h : tkV V k T = 1) {t : Nat} (ht : t < (trL T 225).length) (i j : Nat) : oI V k T (oI V k T t i) j = oI V k T t (i + j) := by
  obtain ⟨x, y, z, q1, q2, q3, q4, q5⟩ := mN_p hT ht
  obtain ⟨-, -, e⟩ := oI_s hT hk h ht i
  have hV := hT.2.1
  have l : ∀ i p, tn V (oQ V k i) p < V := fun i p => Nat.mod_lt _ (by omega)
  unfold oI
  rw [show (nmT T (rotN V (oQ V k i) (mN T t))).toNat = oI V k T t i from rfl, e, q1, rot_t hV (oQ_lt (by omega)) (by omega) (by omega) q4, rot_t hV (oQ_lt (by omega)) (l _ _) (l _ _) (l _ _), rot_t hV (oQ_lt (by omega)) (by omega) (by omega) q4, tn_a, tn_a, tn_a]
theorem oI_0 {V k : Nat} {T : sT} (hT : sOk V T) {t : Nat} (ht : t < (trL T 225).length) {i : Nat} (hi : V ∣ i) : oI V k T t i = t := by
  obtain ⟨x, y, z, q1, q2, q3, q4, q5⟩ := mN_p hT ht
  have hV := hT.2.1
  have e0 : oQ V k i = 0 := Nat.mod_eq_zero_of_dvd (Nat.dvd_trans hi (Nat.dvd_mul_right i k))
  have e1 : nmT T (mN T t) = (t : Int) := nm_mk hT ht
  unfold oI
  rw [e0, show rotN V 0 (mN T t) = mN T t by rw [q1, rot_t hV (by omega) (by omega) (by omega) q4, tn_0 (by omega), tn_0 (by omega), tn_0 q4], e1, Int.toNat_natCast]
theorem ex_min (f : Nat → Nat) : ∀ n i, f i ≤ n → ∃ j, ∀ k, f j ≤ f k
  | 0, i, h => ⟨i, fun k => by omega⟩
  | n + 1, i, h => by
    by_cases g : ∃ j, f j < f i
    · obtain ⟨j, hj⟩ := g
      exact ex_min f n j (by omega)
    · exact ⟨i, fun k => Nat.le_of_not_lt (fun z => g ⟨k, z⟩)⟩
def oB (V k : Nat) (T : sT) (t : Nat) : Bool := (List.range V).all (fun i => decide (t ≤ oI V k T t (i + 1)))
theorem oB_t {V k : Nat} {T : sT} {t : Nat} : oB V k T t = true ↔ ∀ i, i < V → t ≤ oI V k T t (i + 1) := by
  unfold oB
  rw [List.all_eq_true]
  constructor
  · intro h i hi
    exact of_decide_eq_true (h i (List.mem_range.mpr hi))
  · intro h i hi
    exact decide_eq_true (h i (List.mem_range.mp hi))
/-- not the least of its orbit: in the orbit of a smaller one that is -/
theorem oB_n {V k : Nat} {T : sT} (hT : sOk V T) (hk : k < V) (h : tkV V k T = 1) {t : Nat} (ht : t < (trL T 225).length) : ¬ oB V k T t = true ↔ ∃ s, s < t ∧ oB V k T s = true ∧ ∃ i, i < V ∧ oI V k T s i = t := by
  constructor
  · intro g
    have g2 : ∃ i, i < V ∧ oI V k T t (i + 1) < t := by
      apply Classical.byContradiction
      intro w
      exact g (oB_t.mpr (fun i hi => Nat.le_of_not_lt (fun z => w ⟨i, hi, z⟩)))
    obtain ⟨i, hi, hlt⟩ := g2
    obtain ⟨j, hj⟩ := ex_min (fun i => oI V k T t i) _ 0 (Nat.le_refl _)
    have ml := (oI_s hT hk h ht j).2.1
    refine ⟨oI V k T t j, Nat.lt_of_le_of_lt (hj (i + 1)) hlt, oB_t.mpr (fun a ha => ?_), ?_⟩
    · rw [oI_a hT hk h ht]
      exact hj _
    · have hm := Nat.div_add_mod j V
      have hr : j % V < V := Nat.mod_lt _ (by omega)
      generalize j / V = q at hm
      by_cases r0 : j % V = 0
      · refine ⟨0, by omega, ?_⟩
        rw [oI_a hT hk h ht]
        exact oI_0 hT ht ⟨q, by omega⟩
      · refine ⟨V - j % V, by omega, ?_⟩
        rw [oI_a hT hk h ht]
        exact oI_0 hT ht ⟨q + 1, by rw [Nat.mul_add, Nat.mul_one]; omega⟩
  · rintro ⟨s, hs, hb, i, hi, e⟩ g
    have g1 := oB_t.mp g (V - i - 1) (by omega)
    have hsl : s < (trL T 225).length := by omega
    rw [← e, oI_a hT hk h hsl, show i + (V - i - 1 + 1) = V by omega, oI_0 hT hsl (Nat.dvd_refl V)] at g1
    omega
def orV (V k : Nat) (T : sT) : Nat := sm (fun t => iv (oB V k T t = true)) (trL T 225).length
theorem rot_all2 : ∀ V k x : Fin 16, 0 < (V : Nat) → (k : Nat) ≤ V → x < V → rotN V k (2 ^ (x : Nat)) = 2 ^ (((x : Nat) + k) % V) := by decide +kernel
theorem rot_b {V k x y z : Nat} (hV : V ≤ 15) (hk : k ≤ V) (hx : x < V) (hy : y < V) (hz : z < V) : rotN V k (m3 x y z) = m3 (tn V (k % V) x) (tn V (k % V) y) (tn V (k % V) z) := by
  have a : ∀ p, p < V → rotN V k (2 ^ p) = 2 ^ (tn V (k % V) p) := fun p hp => by
    have g : rotN V k (2 ^ p) = 2 ^ ((p + k) % V) := rot_all2 ⟨V, by omega⟩ ⟨k, by omega⟩ ⟨p, by omega⟩ (by show 0 < V; omega) hk hp
    rw [g]
    unfold tn
    rw [Nat.add_mod_mod]
  unfold m3
  rw [rot_or, rot_or, a x hx, a y hy, a z hz]
theorem sh_15 : ((Int32.ofNat 15 &&& 31).toBitVec.smod 32) = BitVec.ofNat 32 15 := by decide
theorem i_shlC {x c : Int32} {m k : Nat} (hx : x.toInt = (m : Int)) (hm : m < 32768) (hc : c.toInt = (k : Int)) (hk : k < 16) : (x <<< (c &&& 31)).toInt = ((m <<< k : Nat) : Int) ∧ m <<< k < 1073741824 := by
  by_cases g : k < 15
  · exact i_shlB hx hm hc g
  have ek : k = 15 := by omega
  subst ek
  have e1 := bN_t hx
  have e2 : (c &&& 31).toBitVec.smod 32 = BitVec.ofNat 32 15 := by
    have : c = Int32.ofNat 15 := Int32.toInt_inj.mp (by rw [hc, Int32.toInt_ofNat_of_lt (by omega)])
    rw [this]
    exact sh_15
  have h2 : m <<< 15 < 1073741824 := by
    rw [Nat.shiftLeft_eq]
    omega
  have e3 : bN (x <<< (c &&& 31)) = m <<< 15 := by
    unfold bN at *
    rw [Int32.toBitVec_shiftLeft, e2, BitVec.shiftLeft_eq', BitVec.toNat_shiftLeft, e1, BitVec.toNat_ofNat, Nat.mod_eq_of_lt (a := 15) (by omega), Nat.mod_eq_of_lt (by omega)]
  exact ⟨by rw [t_bN2 (by omega), e3], h2⟩
theorem k_rotL {d : Nat} {hp : amH} {R : xQ} {a b c : Int32} {m k V : Nat} (ha : a.toInt = (m : Int)) (hm : m < 32768) (hb : b.toInt = (k : Int)) (hc : c.toInt = (V : Int)) (hk : k ≤ V) (hV : V ≤ 15) (hR : ∀ r : Int32, r.toInt = ((rotN V k m : Nat) : Int) → R (.inl (some (.int r))) hp) : xK d 71 [.int a, .int b, .int c] hp R := by
  refine xin (M := am_m71) rfl rfl rfl ?_
  refine xild 1 ⟨u71, _, rfl⟩ rfl rfl ?_
  refine xild 2 ⟨u71, _, rfl⟩ rfl rfl ?_
  refine xshl 3 ⟨u71, _, rfl⟩ rfl ?_
  refine xild 4 ⟨u71, _, rfl⟩ rfl rfl ?_
  refine xild 5 ⟨u71, _, rfl⟩ rfl rfl ?_
  refine xild 6 ⟨u71, _, rfl⟩ rfl rfl ?_
  refine xsub 7 _ ⟨u71, _, rfl⟩ rfl rfl (by omega) (by omega) (fun z6 h6 => ?_)
  refine xshr 8 ⟨u71, _, rfl⟩ rfl ?_
  refine xor_ 9 ⟨u71, _, rfl⟩ rfl ?_
  refine xcst 10 (1) ⟨u71, _, rfl⟩ rfl (by decide) (fun z9 h9 => ?_)
  refine xild 11 ⟨u71, _, rfl⟩ rfl rfl ?_
  refine xshl 12 ⟨u71, _, rfl⟩ rfl ?_
  refine xcst 13 (1) ⟨u71, _, rfl⟩ rfl (by decide) (fun z12 h12 => ?_)
  have s5 := i_shlV h9 hc (by omega)
  refine xsub 14 _ ⟨u71, _, rfl⟩ rfl rfl (by omega) (by omega) (fun z13 h13 => ?_)
  refine xand 15 ⟨u71, _, rfl⟩ rfl ?_
  have s1 := i_shlC ha hm hb (by omega)
  have s2 := i_shrG ha (n := V - k) (by omega : z6.toInt = ((V - k : Nat) : Int)) (by omega)
  have s3 : m >>> (V - k) < 1073741824 := Nat.lt_of_le_of_lt (Nat.shiftRight_le _ _) (by omega)
  have s4 := i_orG s1.1 s2 (by omega) (by omega)
  have s6 := i_andG s4.1 (show z13.toInt = ((2 ^ V - 1 : Nat) : Int) by omega) s4.2
  exact xret ⟨u71, _, rfl⟩ rfl (hR _ s6.1)
theorem u31 : bUp 0 am_m31.1 = true := by decide +kernel
theorem l31E {d V t K : Nat} {T : sT} {hp : amH} {R : xQ} {a b : Int32} (hH : bHk 84 bTT hp) (hB : bdOk hp 3 V T) (hL : lsN hp 3 T 225) (hb : b.toInt = (K : Int)) (hK : K ≤ V) (hk : tkV V (K % V) T = 1) (ht : t < (trL T 225).length)
    (hR : ∀ (z : Int64) (m : Nat), z.toInt = (m : Int) → (∀ u, m.testBit u = true ↔ ∃ i, i < V ∧ oI V (K % V) T t i = u) → R (.inl (some (.long z))) hp) :
    ∀ (jj i m : Nat) (w : Int64) (ws wi : Int32), w.toInt = (m : Int) → (∀ u, m.testBit u = true ↔ ∃ j, j < i ∧ oI V (K % V) T t j = u) → ws.toInt = ((rotN V (oQ V (K % V) i) (mN T t) : Nat) : Int) → wi.toInt = (i : Int) → i + jj = V → xV (d + 4) am_m31 12 [some (.ref 3), some (.int a), some (.int b), some (.long w), none, some (.int ws), some (.int wi)] [] hp R := by
  have hT := hB.2.1
  have b0 : rN hp 3 0 = (V : Int) := hB.1
  have hV := hT.2.1
  have hV3 := hT.1
  have l35 := trL_35 hT 225
  have hkk : K % V < V := Nat.mod_lt _ (by omega)
  intro jj
  induction jj with
  | zero =>
    intro i m w ws wi hw hm hws hwi hj
    obtain rfl : i = V := by omega
    refine xild2 14 ⟨u31, _, rfl⟩ rfl rfl ?_
    refine xald 15 ⟨u31, _, rfl⟩ rfl rfl ?_
    refine xgetC 18 hH ⟨u31, _, rfl⟩ rfl (by decide) (by decide) rfl rfl (by decide) (fun z15 h15 => ?_)
    refine xcmp_ge 21 ⟨u31, _, rfl⟩ rfl (fun c18 => ?_) (fun c18 => ?_)
    · refine xlld 51 ⟨u31, _, rfl⟩ rfl rfl ?_
      exact xretJ ⟨u31, _, rfl⟩ rfl (hR _ m hw hm)
    · omega
  | succ jj ih =>
    intro i m w ws wi hw hm hws hwi hj
    obtain ⟨x, y, z, q1, q2, q3, q4, q5⟩ := mN_p hT ht
    have hq : oQ V (K % V) i < V := oQ_lt (by omega)
    have hs := sPm_tn hq
    have bu := hs.1 x (by omega)
    have bv := hs.1 y (by omega)
    have bz := hs.1 z (by omega)
    have nuv : ¬ tn V (oQ V (K % V) i) x = tn V (oQ V (K % V) i) y := fun k => by have := hs.2.1 _ _ (by omega) (by omega) k; omega
    have nvz : ¬ tn V (oQ V (K % V) i) y = tn V (oQ V (K % V) i) z := fun k => by have := hs.2.1 _ _ (by omega) (by omega) k; omega
    have nuz : ¬ tn V (oQ V (K % V) i) x = tn V (oQ V (K % V) i) z := fun k => by have := hs.2.1 _ _ (by omega) (by omega) k; omega
    obtain ⟨o1, o2, o3⟩ := oI_s hT hkk hk ht i
    have ol : oI V (K % V) T t i < 62 := by omega
    have ml := (mN_lt hT o2).1
    have em : rotN V (oQ V (K % V) i) (mN T t) = m3 (tn V (oQ V (K % V) i) x) (tn V (oQ V (K % V) i) y) (tn V (oQ V (K % V) i) z) := by rw [q1]; exact rot_t hV hq (by omega) (by omega) q4
    have em2 : rotN V K (rotN V (oQ V (K % V) i) (mN T t)) = rotN V (oQ V (K % V) (i + 1)) (mN T t) := by
      rw [em, rot_b hV hK bu bv bz, tn_s, tn_s, tn_s, q1, rot_t hV (oQ_lt (by omega)) (by omega) (by omega) q4]
    rw [o3] at ml
    have hws2 := hws
    rw [em] at hws2
    rw [em] at o1
    refine xild2 14 ⟨u31, _, rfl⟩ rfl rfl ?_
    refine xald 15 ⟨u31, _, rfl⟩ rfl rfl ?_
    refine xgetC 18 hH ⟨u31, _, rfl⟩ rfl (by decide) (by decide) rfl rfl (by decide) (fun z15 h15 => ?_)
    refine xcmp_ge 21 ⟨u31, _, rfl⟩ rfl (fun c18 => ?_) (fun c18 => ?_)
    · omega
    · refine xlld 22 ⟨u31, _, rfl⟩ rfl rfl ?_
      refine xlcst 23 (1) ⟨u31, _, rfl⟩ rfl (by decide) (fun z22 h22 => ?_)
      refine xald 24 ⟨u31, _, rfl⟩ rfl rfl ?_
      refine xild2 26 ⟨u31, _, rfl⟩ rfl rfl ?_
      refine xcallC 29 (o := 3) [.int _] [.long _, .long _] hH ⟨u31, _, rfl⟩ rfl rfl (by decide) rfl (by decide) rfl ⟨rfl, rfl, rfl, rfl⟩ rfl (k_nof (o := 3) (Or.inl rfl) hH hB hL hws2 bu bv bz nuv nvz nuz (fun z26 h26 => ⟨_, rfl, ?_⟩))
      rw [o1] at h26
      refine xlshl 30 ⟨u31, _, rfl⟩ rfl ?_
      refine xlor 31 ⟨u31, _, rfl⟩ rfl ?_
      refine xlst 32 ⟨u31, _, rfl⟩ rfl rfl ?_
      have w1 := j_shl h22 h26 ol
      have w2 := j_or hw w1
      refine xild2 34 ⟨u31, _, rfl⟩ rfl rfl ?_
      refine xild 35 ⟨u31, _, rfl⟩ rfl rfl ?_
      refine xald 36 ⟨u31, _, rfl⟩ rfl rfl ?_
      refine xgetC 39 hH ⟨u31, _, rfl⟩ rfl (by decide) (by decide) rfl rfl (by decide) (fun z36 h36 => ?_)
      refine xcallS 42 [.int _, .int _, .int _] [] hH ⟨u31, _, rfl⟩ rfl rfl rfl rfl rfl (k_rotL hws ml hb (by omega) hK hV (fun z39 h39 => ⟨_, rfl, ?_⟩))
      rw [em2] at h39
      refine xist2 44 ⟨u31, _, rfl⟩ rfl rfl ?_
      refine xinc 47 (1) ⟨u31, _, rfl⟩ rfl rfl rfl (by decide) (by omega) (by omega) (fun z44 h44 => ?_)
      refine xgoto ⟨u31, _, rfl⟩ ?_
      refine ih (i + 1) _ _ _ _ w2 (fun u => ?_) h39 (by omega) (by omega)
      rw [Nat.testBit_or, Nat.testBit_two_pow, Bool.or_eq_true, hm u, decide_eq_true_iff]
      constructor
      · rintro (⟨j, j1, j2⟩ | e)
        · exact ⟨j, by omega, j2⟩
        · exact ⟨i, by omega, e⟩
      · rintro ⟨j, j1, j2⟩
        by_cases g : j = i
        · subst g; exact Or.inr j2
        · exact Or.inl ⟨j, by omega, j2⟩
theorem k_31E {d V t K : Nat} {T : sT} {hp : amH} {R : xQ} {a b : Int32} (hH : bHk 84 bTT hp) (hB : bdOk hp 3 V T) (hL : lsN hp 3 T 225) (ha : a.toInt = (t : Int)) (hb : b.toInt = (K : Int)) (hK : K ≤ V) (hk : tkV V (K % V) T = 1) (ht : t < (trL T 225).length)
    (hR : ∀ (z : Int64) (m : Nat), z.toInt = (m : Int) → (∀ u, m.testBit u = true ↔ ∃ i, i < V ∧ oI V (K % V) T t i = u) → R (.inl (some (.long z))) hp) : xK (d + 4) 31 [.ref 3, .int a, .int b] hp R := by
  have hT := hB.2.1
  have hV := hT.2.1
  have hV3 := hT.1
  obtain ⟨x, y, z, q1, q2, q3, q4, q5⟩ := mN_p hT ht
  have e0 : oQ V (K % V) 0 = 0 := by unfold oQ; rw [Nat.zero_mul, Nat.zero_mod]
  have er : rotN V (oQ V (K % V) 0) (mN T t) = mN T t := by rw [e0, q1, rot_t hV (by omega) (by omega) (by omega) q4, tn_0 (by omega), tn_0 (by omega), tn_0 q4]
  refine xin (M := am_m31) rfl rfl rfl ?_
  refine xlcst 1 (0) ⟨u31, _, rfl⟩ rfl (by decide) (fun z0 h0 => ?_)
  refine xlst 2 ⟨u31, _, rfl⟩ rfl rfl ?_
  refine xald 3 ⟨u31, _, rfl⟩ rfl rfl ?_
  refine xild 4 ⟨u31, _, rfl⟩ rfl rfl ?_
  refine xcallC 7 (o := 3) [.int _] [] hH ⟨u31, _, rfl⟩ rfl rfl (by decide) rfl (by decide) rfl ⟨rfl, rfl, rfl, rfl⟩ rfl (k_setL hH hL (t := t) ha ht (fun z4 h4 => ⟨_, rfl, ?_⟩))
  refine xist2 9 ⟨u31, _, rfl⟩ rfl rfl ?_
  refine xcst 10 (0) ⟨u31, _, rfl⟩ rfl (by decide) (fun z9 h9 => ?_)
  refine xist2 12 ⟨u31, _, rfl⟩ rfl rfl ?_
  exact l31E hH hB hL hb hK hk ht hR V 0 0 _ _ _ (by omega) (fun u => ⟨fun z => (by rw [Nat.zero_testBit] at z; cases z), fun ⟨j, j1, _⟩ => absurd j1 (Nat.not_lt_zero j)⟩) (by rw [er]; exact h4) (by omega) (by omega)
theorem lk_s {V : Nat} {T : sT} (hT : sOk V T) : lkV V T ≤ V ∧ tkV V (lkV V T % V) T = 1 := by
  have h3 := hT.1
  have a := lkF_in (V := V) (T := T) (V - 1) 1
  have l : lkV V T ≤ V := by unfold lkV; omega
  refine ⟨l, ?_⟩
  by_cases g : lkV V T = V
  · rw [g, Nat.mod_self]; exact tk_0 hT
  · rw [Nat.mod_eq_of_lt (by omega)]
    have k : ∀ f s, s + f = V → ¬ lkF V T f s = V → tkV V (lkF V T f s) T = 1 := by
      intro f
      induction f with
      | zero => intro s h1 h2; exact absurd (show lkF V T 0 s = V from h1) h2
      | succ f ih =>
        intro s h1 h2
        unfold lkF at h2 ⊢
        by_cases e : tkV V s T = 1
        · rw [if_pos e]; exact e
        · rw [if_neg e] at h2 ⊢
          exact ih (s + 1) (by omega) h2
    exact k (V - 1) 1 (by omega) g
theorem u158 : bUp 0 am_m158.1 = true := by decide +kernel
theorem l158E {d V K : Nat} {T : sT} {hp : amH} {R : xQ} {b : Int32} (hH : bHk 84 bTT hp) (hB : bdOk hp 3 V T) (hL : lsN hp 3 T 225) (hb : b.toInt = (K : Int)) (hK : K ≤ V) (hk : tkV V (K % V) T = 1)
    (hR : ∀ z : Int32, z.toInt = ((orV V (K % V) T : Nat) : Int) → R (.inl (some (.int z))) hp) :
    ∀ (jj t m : Nat) (w : Int64) (wf wt : Int32), w.toInt = (m : Int) → (∀ u, m.testBit u = true ↔ ∃ s, s < t ∧ oB V (K % V) T s = true ∧ ∃ i, i < V ∧ oI V (K % V) T s i = u) → wf.toInt = ((sm (fun t => iv (oB V (K % V) T t = true)) t : Nat) : Int) → wf.toInt ≤ (t : Int) → wt.toInt = (t : Int) → t + jj = (trL T 225).length → xV (d + 5) am_m158 16 [some (.ref 0), some (.int b), some (.long w), none, some (.int wf), some (.int wt)] [] hp R := by
  have hT := hB.2.1
  have b0 : rN hp 3 0 = (V : Int) := hB.1
  have b1 : rN hp 3 1 = (((trL T 225).length : Nat) : Int) := hL.1
  have hV := hT.2.1
  have hV3 := hT.1
  have l35 := trL_35 hT 225
  have hkk : K % V < V := Nat.mod_lt _ (by omega)
  intro jj
  induction jj with
  | zero =>
    intro t m w wf wt hw hm hf hf2 hwt hj
    obtain rfl : t = (trL T 225).length := by omega
    refine xild2 18 ⟨u158, _, rfl⟩ rfl rfl ?_
    refine xald 19 ⟨u158, _, rfl⟩ rfl rfl ?_
    refine xgetD 22 (3) hH ⟨u158, _, rfl⟩ rfl (by decide) (by decide) rfl rfl (by decide) ?_
    refine xgetC 25 hH ⟨u158, _, rfl⟩ rfl (by decide) (by decide) rfl rfl (by decide) (fun z22 h22 => ?_)
    refine xcmp_ge 28 ⟨u158, _, rfl⟩ rfl (fun c25 => ?_) (fun c25 => ?_)
    · refine xild2 63 ⟨u158, _, rfl⟩ rfl rfl ?_
      exact xret ⟨u158, _, rfl⟩ rfl (hR _ hf)
    · omega
  | succ jj ih =>
    intro t m w wf wt hw hm hf hf2 hwt hj
    have ht : t < (trL T 225).length := by omega
    have on := oB_n hT hkk hk ht
    have es : sm (fun t => iv (oB V (K % V) T t = true)) (t + 1) = sm (fun t => iv (oB V (K % V) T t = true)) t + iv (oB V (K % V) T t = true) := rfl
    refine xild2 18 ⟨u158, _, rfl⟩ rfl rfl ?_
    refine xald 19 ⟨u158, _, rfl⟩ rfl rfl ?_
    refine xgetD 22 (3) hH ⟨u158, _, rfl⟩ rfl (by decide) (by decide) rfl rfl (by decide) ?_
    refine xgetC 25 hH ⟨u158, _, rfl⟩ rfl (by decide) (by decide) rfl rfl (by decide) (fun z22 h22 => ?_)
    refine xcmp_ge 28 ⟨u158, _, rfl⟩ rfl (fun c25 => ?_) (fun c25 => ?_)
    · omega
    · refine xlld 29 ⟨u158, _, rfl⟩ rfl rfl ?_
      refine xild2 31 ⟨u158, _, rfl⟩ rfl rfl ?_
      refine xlshr 32 ⟨u158, _, rfl⟩ rfl ?_
      refine xlcst 33 (1) ⟨u158, _, rfl⟩ rfl (by decide) (fun z32 h32 => ?_)
      refine xland 34 ⟨u158, _, rfl⟩ rfl ?_
      refine xlcst 35 (0) ⟨u158, _, rfl⟩ rfl (by decide) (fun z34 h34 => ?_)
      have w1 := j_shr hw hwt (by omega)
      have w2 := j_and w1 (b := 1) h32
      rw [bit_1] at w2
      refine xlcmp 36 ⟨u158, _, rfl⟩ rfl (fun z35 h35 => ?_)
      refine xif_ne 39 ⟨u158, _, rfl⟩ rfl (fun c36 => ?_) (fun c36 => ?_)
      · have bt : m.testBit t = true := by
          cases e : m.testBit t with
          | true => rfl
          | false => rw [e, show Bool.toNat false = 0 from rfl] at w2; omega
        have nb : ¬ oB V (K % V) T t = true := on.mpr ((hm t).mp bt)
        rw [iv_f nb] at es
        refine xinc 58 (1) ⟨u158, _, rfl⟩ rfl rfl rfl (by decide) (by omega) (by omega) (fun z55 h55 => ?_)
        refine xgoto ⟨u158, _, rfl⟩ ?_
        refine ih (t + 1) m _ _ _ hw (fun u => ?_) (by rw [es]; omega) (by omega) (by omega) (by omega)
        rw [hm u]
        constructor
        · rintro ⟨s, s1, s2, s3⟩
          exact ⟨s, by omega, s2, s3⟩
        · rintro ⟨s, s1, s2, s3⟩
          by_cases g : s = t
          · subst g; exact absurd s2 nb
          · exact ⟨s, by omega, s2, s3⟩
      · have bt : ¬ m.testBit t = true := fun e => by
          rw [e, show Bool.toNat true = 1 from rfl] at w2
          omega
        have yb : oB V (K % V) T t = true := Classical.byContradiction (fun z => bt ((hm t).mpr (on.mp z)))
        rw [iv_t yb] at es
        refine xlld 40 ⟨u158, _, rfl⟩ rfl rfl ?_
        refine xald 41 ⟨u158, _, rfl⟩ rfl rfl ?_
        refine xgetD 44 (3) hH ⟨u158, _, rfl⟩ rfl (by decide) (by decide) rfl rfl (by decide) ?_
        refine xild2 46 ⟨u158, _, rfl⟩ rfl rfl ?_
        refine xild 47 ⟨u158, _, rfl⟩ rfl rfl ?_
        refine xcallC 50 (o := 3) [.int _, .int _] [.long _] hH ⟨u158, _, rfl⟩ rfl rfl (by decide) rfl (by decide) rfl ⟨rfl, rfl, rfl, rfl⟩ rfl (k_31E hH hB hL hwt hb hK hk ht (fun z47 m47 h47 g47 => ⟨_, rfl, ?_⟩))
        have w3 := j_or hw h47
        refine xlor 51 ⟨u158, _, rfl⟩ rfl ?_
        refine xlst 52 ⟨u158, _, rfl⟩ rfl rfl ?_
        refine xinc 55 (1) ⟨u158, _, rfl⟩ rfl rfl rfl (by decide) (by omega) (by omega) (fun z52 h52 => ?_)
        refine xinc 58 (1) ⟨u158, _, rfl⟩ rfl rfl rfl (by decide) (by omega) (by omega) (fun z55 h55 => ?_)
        refine xgoto ⟨u158, _, rfl⟩ ?_
        refine ih (t + 1) _ _ _ _ w3 (fun u => ?_) (by rw [es]; omega) (by omega) (by omega) (by omega)
        rw [Nat.testBit_or, Bool.or_eq_true, hm u, g47 u]
        constructor
        · rintro (⟨s, s1, s2, s3⟩ | e)
          · exact ⟨s, by omega, s2, s3⟩
          · exact ⟨t, by omega, yb, e⟩
        · rintro ⟨s, s1, s2, s3⟩
          by_cases g : s = t
          · subst g; exact Or.inr s3
          · exact Or.inl ⟨s, by omega, s2, s3⟩
theorem k_158E {d V n : Nat} {h : Nat → sR} {sv : Option sR} {T : sT} {ty : Nat → Int} {hp : amH} {R : xQ} (hH : bHk 84 bTT hp) (hS : clS hp (V, T, ty) n h sv)
    (hR : ∀ (z : Int32) hp1, bHk 84 bTT hp1 → cF hp hp1 → clS hp1 (V, T, ty) n h sv → z.toInt = ((orV V (lkV V T % V) T : Nat) : Int) → R (.inl (some (.int z))) hp1) : xK (d + 5) 158 [.ref 0] hp R := by
  have hB : bdOk hp 3 V T := hS.1
  have b0 : rN hp 3 0 = (V : Int) := hB.1
  have hL : lsN hp 3 T 225 := hS.2.1
  have b1 : rN hp 3 1 = (((trL T 225).length : Nat) : Int) := hL.1
  have hT0 : sOk V T := hB.2.1
  have h15 : V ≤ 15 := hT0.2.1
  have l35 : (trL T 225).length ≤ 35 := trL_35 hT0 225
  have nq0 : rN hp 49 0 = ((nQ T : Nat) : Int) := hS.2.2.1.1
  have lk := lk_s hT0
  refine xin (M := am_m158) rfl rfl rfl ?_
  refine xald 1 ⟨u158, _, rfl⟩ rfl rfl ?_
  refine xgetD 4 (3) hH ⟨u158, _, rfl⟩ rfl (by decide) (by decide) rfl rfl (by decide) ?_
  refine xcallC 7 (o := 3) [] [] hH ⟨u158, _, rfl⟩ rfl rfl (by decide) rfl (by decide) rfl ⟨rfl, rfl, rfl, rfl⟩ rfl (k_30E hH hB hL (fun z4 h4 => ⟨_, rfl, ?_⟩))
  refine xist 8 ⟨u158, _, rfl⟩ rfl rfl ?_
  refine xlcst 9 (0) ⟨u158, _, rfl⟩ rfl (by decide) (fun z8 h8 => ?_)
  refine xlst 10 ⟨u158, _, rfl⟩ rfl rfl ?_
  refine xcst 11 (0) ⟨u158, _, rfl⟩ rfl (by decide) (fun z10 h10 => ?_)
  refine xist2 13 ⟨u158, _, rfl⟩ rfl rfl ?_
  refine xcst 14 (0) ⟨u158, _, rfl⟩ rfl (by decide) (fun z13 h13 => ?_)
  refine xist2 16 ⟨u158, _, rfl⟩ rfl rfl ?_
  exact l158E (K := lkV V T) hH hB hL h4 lk.1 lk.2 (fun z e => hR z hp hH cF.refl hS e) (trL T 225).length 0 0 _ _ _ (by omega) (fun u => ⟨fun z => (by rw [Nat.zero_testBit] at z; cases z), fun ⟨s, s1, _⟩ => absurd s1 (Nat.not_lt_zero s)⟩) (by rw [h10]; rfl) (by omega) (by omega) (by omega)
theorem l324E {d V t k x y z : Nat} {T : sT} {hp : amH} {R : xQ} {a b : Int32} (hH : bHk 84 bTT hp) (hP : P0 hp) (hB : rdOk hp V T) (hL : rlN hp T 225) (ha : a.toInt = (t : Int)) (hb : b.toInt = (k : Int)) (hkk : k < V) (hk : tkV V k T = 1) (ht : t < (trL T 225).length) (q1 : mN T t = m3 x y z) (q2 : x < y) (q3 : y < z) (q4 : z < V)
    (hR : ∀ r : Int32, r.toInt = ((iv (oB V k T t = true) : Nat) : Int) → R (.inl (some (.int r))) hp) :
    ∀ (jj n : Nat) (wx wy wz wn : Int32), wx.toInt = ((tn V (oQ V k n) x : Nat) : Int) → wy.toInt = ((tn V (oQ V k n) y : Nat) : Int) → wz.toInt = ((tn V (oQ V k n) z : Nat) : Int) → wn.toInt = (n : Int) → n + jj = V → (∀ i, i < n → t ≤ oI V k T t (i + 1)) → xV (d + 2) am_m324 26 [some (.ref 66), some (.int a), some (.int b), some (.int wx), some (.int wy), some (.int wz), some (.int wn)] [] hp R := by
  have hT := hB.2.1
  have b0 : rN hp 67 0 = (V : Int) := hB.1
  have hV := hT.2.1
  have l35 := trL_35 hT 225
  intro jj
  induction jj with
  | zero =>
    intro n wx wy wz wn hx hy hz hwn hj hi
    obtain rfl : n = V := by omega
    have yb : oB n k T t = true := oB_t.mpr hi
    refine xild2 28 ⟨u324, _, rfl⟩ rfl rfl ?_
    refine xald 29 ⟨u324, _, rfl⟩ rfl rfl ?_
    refine xcall 32 [.ref 66] [.int _] hH ⟨u324, _, rfl⟩ rfl rfl rfl rfl rfl (k_points hH (fun z29 h29 => ⟨_, rfl, ?_⟩))
    refine xcmp_ge 35 ⟨u324, _, rfl⟩ rfl (fun c32 => ?_) (fun c32 => ?_)
    · refine xcst 90 (1) ⟨u324, _, rfl⟩ rfl (by decide) (fun z89 h89 => ?_)
      exact xretB ⟨u324, _, rfl⟩ rfl (by omega) (hR _ (by rw [iv_t yb]; exact h89))
    · omega
  | succ jj ih =>
    intro n wx wy wz wn hx hy hz hwn hj hi
    obtain ⟨o1, o2, o3⟩ := oI_s hT hkk hk ht (n + 1)
    have hq : oQ V k (n + 1) < V := oQ_lt (by omega)
    rw [q1, rot_t hV hq (by omega) (by omega) q4] at o1
    have l : ∀ i p, tn V (oQ V k i) p < V := fun i p => Nat.mod_lt _ (by omega)
    have lx := l (n + 1) x
    have ly := l (n + 1) y
    have lz := l (n + 1) z
    refine xild2 28 ⟨u324, _, rfl⟩ rfl rfl ?_
    refine xald 29 ⟨u324, _, rfl⟩ rfl rfl ?_
    refine xcall 32 [.ref 66] [.int _] hH ⟨u324, _, rfl⟩ rfl rfl rfl rfl rfl (k_points hH (fun z29 h29 => ⟨_, rfl, ?_⟩))
    refine xcmp_ge 35 ⟨u324, _, rfl⟩ rfl (fun c32 => ?_) (fun c32 => ?_)
    · omega
    · refine xald 36 ⟨u324, _, rfl⟩ rfl rfl ?_
      refine xild 37 ⟨u324, _, rfl⟩ rfl rfl ?_
      refine xild 38 ⟨u324, _, rfl⟩ rfl rfl ?_
      refine xcall 41 [.ref 66, .int _, .int _] [] hH ⟨u324, _, rfl⟩ rfl rfl rfl rfl rfl (k_rtrn hH hP hB (x := tn V (oQ V k n) x) (k := k) hx hb (l _ _) hkk (fun z38 h38 => ⟨_, rfl, ?_⟩))
      have h38 : z38.toInt = ((tn V (oQ V k (n + 1)) x : Nat) : Int) := by rw [← tn_s]; exact h38
      refine xist 42 ⟨u324, _, rfl⟩ rfl rfl ?_
      refine xald 43 ⟨u324, _, rfl⟩ rfl rfl ?_
      refine xild2 45 ⟨u324, _, rfl⟩ rfl rfl ?_
      refine xild 46 ⟨u324, _, rfl⟩ rfl rfl ?_
      refine xcall 49 [.ref 66, .int _, .int _] [] hH ⟨u324, _, rfl⟩ rfl rfl rfl rfl rfl (k_rtrn hH hP hB (x := tn V (oQ V k n) y) (k := k) hy hb (l _ _) hkk (fun z46 h46 => ⟨_, rfl, ?_⟩))
      have h46 : z46.toInt = ((tn V (oQ V k (n + 1)) y : Nat) : Int) := by rw [← tn_s]; exact h46
      refine xist2 51 ⟨u324, _, rfl⟩ rfl rfl ?_
      refine xald 52 ⟨u324, _, rfl⟩ rfl rfl ?_
      refine xild2 54 ⟨u324, _, rfl⟩ rfl rfl ?_
      refine xild 55 ⟨u324, _, rfl⟩ rfl rfl ?_
      refine xcall 58 [.ref 66, .int _, .int _] [] hH ⟨u324, _, rfl⟩ rfl rfl rfl rfl rfl (k_rtrn hH hP hB (x := tn V (oQ V k n) z) (k := k) hz hb (l _ _) hkk (fun z55 h55 => ⟨_, rfl, ?_⟩))
      have h55 : z55.toInt = ((tn V (oQ V k (n + 1)) z : Nat) : Int) := by rw [← tn_s]; exact h55
      refine xist2 60 ⟨u324, _, rfl⟩ rfl rfl ?_
      refine xald 61 ⟨u324, _, rfl⟩ rfl rfl ?_
      refine xcst 62 (1) ⟨u324, _, rfl⟩ rfl (by decide) (fun z61 h61 => ?_)
      refine xild 63 ⟨u324, _, rfl⟩ rfl rfl ?_
      refine xshl 64 ⟨u324, _, rfl⟩ rfl ?_
      refine xcst 65 (1) ⟨u324, _, rfl⟩ rfl (by decide) (fun z64 h64 => ?_)
      refine xild2 67 ⟨u324, _, rfl⟩ rfl rfl ?_
      refine xshl 68 ⟨u324, _, rfl⟩ rfl ?_
      refine xor_ 69 ⟨u324, _, rfl⟩ rfl ?_
      refine xcst 70 (1) ⟨u324, _, rfl⟩ rfl (by decide) (fun z69 h69 => ?_)
      refine xild2 72 ⟨u324, _, rfl⟩ rfl rfl ?_
      refine xshl 73 ⟨u324, _, rfl⟩ rfl ?_
      refine xor_ 74 ⟨u324, _, rfl⟩ rfl ?_
      have e1 := i_shl h61 (n := tn V (oQ V k (n + 1)) x) h38 (by omega)
      have e2 := i_shl h64 (n := tn V (oQ V k (n + 1)) y) h46 (by omega)
      have e3 := i_or e1.1 e2.1 e1.2 e2.2
      have e4 := i_shl h69 (n := tn V (oQ V k (n + 1)) z) h55 (by omega)
      have e5 := i_or e3.1 e4.1 e3.2 e4.2
      refine xcall 77 [.ref 66, .int _] [] hH ⟨u324, _, rfl⟩ rfl rfl rfl rfl rfl (k_rnof hH hB hL (m := m3 (tn V (oQ V k (n + 1)) x) (tn V (oQ V k (n + 1)) y) (tn V (oQ V k (n + 1)) z)) e5.1 (fun z74 h74 => ⟨_, rfl, ?_⟩))
      rw [o1] at h74
      refine xild 78 ⟨u324, _, rfl⟩ rfl rfl ?_
      refine xcmp_ge 81 ⟨u324, _, rfl⟩ rfl (fun c78 => ?_) (fun c78 => ?_)
      · refine xinc 86 (1) ⟨u324, _, rfl⟩ rfl rfl rfl (by decide) (by omega) (by omega) (fun z83 h83 => ?_)
        refine xgoto ⟨u324, _, rfl⟩ ?_
        exact ih (n + 1) _ _ _ _ h38 h46 h55 (by omega) (by omega) (fun i hi2 => by
          by_cases g : i = n
          · subst g; omega
          · exact hi i (by omega))
      · refine xcst 82 (0) ⟨u324, _, rfl⟩ rfl (by decide) (fun z81 h81 => ?_)
        exact xretB ⟨u324, _, rfl⟩ rfl (by omega) (hR _ (by
          have nb : ¬ oB V k T t = true := fun w => by have := oB_t.mp w n (by omega); omega
          rw [iv_f nb]; exact h81))
theorem k_324E {d V t k : Nat} {T : sT} {hp : amH} {R : xQ} {a b : Int32} (hH : bHk 84 bTT hp) (hP : P0 hp) (hB : rdOk hp V T) (hL : rlN hp T 225) (ha : a.toInt = (t : Int)) (hb : b.toInt = (k : Int)) (hkk : k < V) (hk : tkV V k T = 1) (ht : t < (trL T 225).length)
    (hR : ∀ r : Int32, r.toInt = ((iv (oB V k T t = true) : Nat) : Int) → R (.inl (some (.int r))) hp) : xK (d + 2) 324 [.ref 66, .int a, .int b] hp R := by
  have hT := hB.2.1
  have l35 := trL_35 hT 225
  obtain ⟨x, y, z, q1, q2, q3, q4, q5⟩ := mN_p hT ht
  obtain ⟨o1, o2, o3⟩ := rl_at hT hL ht q1 q2 q3
  have e0 : oQ V k 0 = 0 := by unfold oQ; rw [Nat.zero_mul, Nat.zero_mod]
  have et : a.toInt.toNat = t := by omega
  refine xin (M := am_m324) rfl rfl rfl ?_
  refine xald 1 ⟨u324, _, rfl⟩ rfl rfl ?_
  refine xgetR 4 72 hH ⟨u324, _, rfl⟩ rfl rfl ?_
  refine xild 5 ⟨u324, _, rfl⟩ rfl rfl ?_
  refine xiald 6 (a).toInt.toNat hH ⟨u324, _, rfl⟩ rfl (by decide) rfl (by omega) (by omega) (fun z5 h5 => ?_)
  refine xist 7 ⟨u324, _, rfl⟩ rfl rfl ?_
  refine xald 8 ⟨u324, _, rfl⟩ rfl rfl ?_
  refine xgetR 11 73 hH ⟨u324, _, rfl⟩ rfl rfl ?_
  refine xild 12 ⟨u324, _, rfl⟩ rfl rfl ?_
  refine xiald 13 (a).toInt.toNat hH ⟨u324, _, rfl⟩ rfl (by decide) rfl (by omega) (by omega) (fun z12 h12 => ?_)
  refine xist2 15 ⟨u324, _, rfl⟩ rfl rfl ?_
  refine xald 16 ⟨u324, _, rfl⟩ rfl rfl ?_
  refine xgetR 19 74 hH ⟨u324, _, rfl⟩ rfl rfl ?_
  refine xild 20 ⟨u324, _, rfl⟩ rfl rfl ?_
  refine xiald 21 (a).toInt.toNat hH ⟨u324, _, rfl⟩ rfl (by decide) rfl (by omega) (by omega) (fun z20 h20 => ?_)
  refine xist2 23 ⟨u324, _, rfl⟩ rfl rfl ?_
  refine xcst 24 (0) ⟨u324, _, rfl⟩ rfl (by decide) (fun z23 h23 => ?_)
  refine xist2 26 ⟨u324, _, rfl⟩ rfl rfl ?_
  exact l324E hH hP hB hL ha hb hkk hk ht q1 q2 q3 q4 hR V 0 _ _ _ _ (by rw [e0, tn_0 (by omega), h5, et]; exact o1) (by rw [e0, tn_0 (by omega), h12, et]; exact o2) (by rw [e0, tn_0 q4, h20, et]; exact o3) (by omega) (by omega) (fun i hi => absurd hi (Nat.not_lt_zero i))
theorem l323E {d V k : Nat} {T : sT} {hp : amH} {R : xQ} {b : Int32} (hH : bHk 84 bTT hp) (hP : P0 hp) (hB : rdOk hp V T) (hL : rlN hp T 225) (hb : b.toInt = (k : Int)) (hkk : k < V) (hk : tkV V k T = 1)
    (hR : ∀ z : Int32, z.toInt = ((orV V k T : Nat) : Int) → R (.inl (some (.int z))) hp) :
    ∀ (jj t : Nat) (wf wt : Int32), wf.toInt = ((sm (fun t => iv (oB V k T t = true)) t : Nat) : Int) → wf.toInt ≤ (t : Int) → wt.toInt = (t : Int) → t + jj = (trL T 225).length → xV (d + 3) am_m323 19 [some (.ref 66), some (.int b), some (.int wf), some (.int wt)] [] hp R := by
  have hT := hB.2.1
  have b1 : rN hp 66 12 = (((trL T 225).length : Nat) : Int) := hL.1
  have l35 := trL_35 hT 225
  intro jj
  induction jj with
  | zero =>
    intro t wf wt hf hf2 hwt hj
    obtain rfl : t = (trL T 225).length := by omega
    refine xild 20 ⟨u323, _, rfl⟩ rfl rfl ?_
    refine xald 21 ⟨u323, _, rfl⟩ rfl rfl ?_
    refine xgetI 24 hH ⟨u323, _, rfl⟩ rfl rfl (fun z21 h21 => ?_)
    refine xcmp_ge 27 ⟨u323, _, rfl⟩ rfl (fun c24 => ?_) (fun c24 => ?_)
    · refine xild 51 ⟨u323, _, rfl⟩ rfl rfl ?_
      exact xret ⟨u323, _, rfl⟩ rfl (hR _ hf)
    · omega
  | succ jj ih =>
    intro t wf wt hf hf2 hwt hj
    have ht : t < (trL T 225).length := by omega
    have es : sm (fun t => iv (oB V k T t = true)) (t + 1) = sm (fun t => iv (oB V k T t = true)) t + iv (oB V k T t = true) := rfl
    have ei : iv (oB V k T t = true) ≤ 1 := iv_le
    refine xild 20 ⟨u323, _, rfl⟩ rfl rfl ?_
    refine xald 21 ⟨u323, _, rfl⟩ rfl rfl ?_
    refine xgetI 24 hH ⟨u323, _, rfl⟩ rfl rfl (fun z21 h21 => ?_)
    refine xcmp_ge 27 ⟨u323, _, rfl⟩ rfl (fun c24 => ?_) (fun c24 => ?_)
    · omega
    · refine xild 28 ⟨u323, _, rfl⟩ rfl rfl ?_
      refine xald 29 ⟨u323, _, rfl⟩ rfl rfl ?_
      refine xild 30 ⟨u323, _, rfl⟩ rfl rfl ?_
      refine xild 31 ⟨u323, _, rfl⟩ rfl rfl ?_
      refine xcall 34 [.ref 66, .int _, .int _] [.int _] hH ⟨u323, _, rfl⟩ rfl rfl rfl rfl rfl (k_324E hH hP hB hL hwt hb hkk hk ht (fun z31 h31 => ⟨_, rfl, ?_⟩))
      refine xif_eq 37 ⟨u323, _, rfl⟩ rfl (fun c34 => ?_) (fun c34 => ?_)
      · refine xcst 42 (0) ⟨u323, _, rfl⟩ rfl (by decide) (fun z41 h41 => ?_)
        refine xadd 43 _ ⟨u323, _, rfl⟩ rfl rfl (by omega) (by omega) (fun z42 h42 => ?_)
        refine xist 44 ⟨u323, _, rfl⟩ rfl rfl ?_
        refine xinc 47 (1) ⟨u323, _, rfl⟩ rfl rfl rfl (by decide) (by omega) (by omega) (fun z44 h44 => ?_)
        refine xgoto ⟨u323, _, rfl⟩ ?_
        exact ih (t + 1) _ _ (by rw [es]; omega) (by omega) (by omega) (by omega)
      · refine xcst 38 (1) ⟨u323, _, rfl⟩ rfl (by decide) (fun z37 h37 => ?_)
        refine xgoto ⟨u323, _, rfl⟩ ?_
        refine xadd 43 _ ⟨u323, _, rfl⟩ rfl rfl (by omega) (by omega) (fun z42 h42 => ?_)
        refine xist 44 ⟨u323, _, rfl⟩ rfl rfl ?_
        refine xinc 47 (1) ⟨u323, _, rfl⟩ rfl rfl rfl (by decide) (by omega) (by omega) (fun z44 h44 => ?_)
        refine xgoto ⟨u323, _, rfl⟩ ?_
        exact ih (t + 1) _ _ (by rw [es]; omega) (by omega) (by omega) (by omega)
theorem k_323E {d V n : Nat} {h : Nat → sR} {sv : Option sR} {T : sT} {ty : Nat → Int} {hp : amH} {R : xQ} (hH : bHk 84 bTT hp) (hP : P0 hp) (hS : rfS hp (V, T, ty) n h sv)
    (hR : ∀ (z : Int32) hp1, bHk 84 bTT hp1 → P0 hp1 → bFr wM hp hp1 → rfS hp1 (V, T, ty) n h sv → z.toInt = ((orV V (lkV V T % V) T : Nat) : Int) → R (.inl (some (.int z))) hp1) : xK (d + 5) 323 [.ref 66] hp R := by
  have hB : rdOk hp V T := rowOk_rd hS.1
  have b0 : rN hp 67 0 = (V : Int) := hB.1
  have hT0 : sOk V T := hB.2.1
  have h15 : V ≤ 15 := hT0.2.1
  have l35 : (trL T 225).length ≤ 35 := trL_35 hT0 225
  have lk := lk_s hT0
  refine xin (M := am_m323) rfl rfl rfl ?_
  refine xald 1 ⟨u323, _, rfl⟩ rfl rfl ?_
  refine xcst 2 (0) ⟨u323, _, rfl⟩ rfl (by decide) (fun z1 h1 => ?_)
  refine xputI 5 hH ⟨u323, _, rfl⟩ rfl rfl ⟨rfl, rfl⟩ (by omega) (by omega) (fun hp2 hH2 U2 => ?_)
  have s2 := U2.1
  have S2 := rfS_W (W := [(66, 7)]) hS (rU_fr U2 rfl) (fun _ => rfl) rfl rfl (fun _ => rfl) (fun _ => rfl)
  have P2 := P0_W (W := [(66, 7)]) (by decide) (rU_fr U2 rfl) hP
  have B2 : rdOk hp2 V T := rowOk_rd S2.1
  refine xald 6 ⟨u323, _, rfl⟩ rfl rfl ?_
  refine xcall 9 [.ref 66] [] hH2 ⟨u323, _, rfl⟩ rfl rfl rfl rfl rfl (k_236E hH2 P2 B2 (fun z6 hp6 hH6 F6 B6 L6 h6 => ⟨_, rfl, ?_⟩))
  have P6 := P0_W (W := bLT) (by decide) F6 P2
  have b6 : rN hp6 67 0 = (V : Int) := B6.1
  refine xald 10 ⟨u323, _, rfl⟩ rfl rfl ?_
  refine xcall 13 [.ref 66] [.int _] hH6 ⟨u323, _, rfl⟩ rfl rfl rfl rfl rfl (k_points hH6 (fun z10 h10 => ⟨_, rfl, ?_⟩))
  refine xrem 14 (_) ⟨u323, _, rfl⟩ rfl (by omega) (by omega) (rfl) (fun z13 h13 => ?_)
  have b6 : rN hp6 67 0 = (V : Int) := B6.1
  have e13 : z13.toInt = ((lkV V T % V : Nat) : Int) := by rw [h13, h6, h10, b6]; exact (Int.natCast_emod _ _).symm
  refine xist 15 ⟨u323, _, rfl⟩ rfl rfl ?_
  refine xcst 16 (0) ⟨u323, _, rfl⟩ rfl (by decide) (fun z15 h15 => ?_)
  refine xist 17 ⟨u323, _, rfl⟩ rfl rfl ?_
  refine xcst 18 (0) ⟨u323, _, rfl⟩ rfl (by decide) (fun z17 h17 => ?_)
  refine xist 19 ⟨u323, _, rfl⟩ rfl rfl ?_
  exact l323E (k := lkV V T % V) hH6 P6 B6 L6 e13 (Nat.mod_lt _ (by omega)) lk.2 (fun z e => hR z hp6 hH6 P6 ((rU_fr U2 (by decide)).trans (bFr_sub F6 (by decide))) (rfS_W S2 F6 (fun _ => rfl) rfl rfl (fun _ => rfl) (fun _ => rfl)) e) (trL T 225).length 0 _ _ (by rw [h15]; rfl) (by omega) (by omega) (by omega)
end
/-! ##### qcw ##### -/
section
/-! ===== the law's locals of two places ===== -/
def cWl (cl : amL) (D : List (Nat × Value)) : Prop := ∀ x, x ∈ D → amGet cl x.1 = some x.2
def cW (sc : Option (List Int32)) (d : Nat) (M : amM) (pc : Nat) (L : List (Option Value)) (D : List (Nat × Value)) (st : List Value) (hp : amH) (Q : cQ) : Prop := ∀ cl, lk cl L → cWl cl D → ∀ kc ks, ∃ f y hp1 mc ms, amRun amGG sc f d M (amSeek M.1 pc) pc cl st hp kc ks = some (y, hp1, kc + mc, ks + ms) ∧ Q y hp1 mc ms
theorem cW_in {sc : Option (List Int32)} {M : amM} {pc d : Nat} {L : List (Option Value)} {st : List Value} {hp : amH} {Q : cQ} (hw : cW sc d M pc L [] st hp Q) : cV sc d M pc L st hp Q := fun cl hl => hw cl hl (fun x z => by cases z)
theorem cW_of {sc : Option (List Int32)} {M : amM} {pc d : Nat} {L : List (Option Value)} {D : List (Nat × Value)} {st : List Value} {hp : amH} {Q : cQ} (hw : cV sc d M pc L st hp Q) : cW sc d M pc L D st hp Q := fun cl hl _ => hw cl hl
theorem cWstep {sc : Option (List Int32)} {M : amM} {pc : Nat} {i : Instr} {a b d q : Nat} {L : List (Option Value)} {D D1 : List (Nat × Value)} {st st1 : List Value} {hp hp1 : amH} {Q : cQ} (h : xI M pc i a b)
    (hs : ∀ cl, lk cl L → cWl cl D → ∃ cl1, amDo amGG M sc i a b pc cl st hp = some (.inl ((q, cl1, st1, hp1), 0, 0)) ∧ lk cl1 L ∧ cWl cl1 D1) (hw : cW sc d M q L D1 st1 hp1 Q) : cW sc d M pc L D st hp Q := by
  intro cl hl hd kc ks
  obtain ⟨hu, r, hr⟩ := h
  obtain ⟨cl1, e, hl1, hd1⟩ := hs cl hl hd
  obtain ⟨f, y, hp2, mc, ms, g1, g2⟩ := hw cl1 hl1 hd1 kc ks
  refine ⟨f + 1, y, hp2, mc, ms, ?_, g2⟩
  rw [hr]
  simp only [amRun, if_true, e, Nat.add_zero]
  rw [bUp_next hu (xI_suf hr)]
  exact g1
section CW
variable {sc : Option (List Int32)} {M : amM} {pc a b d : Nat} {L : List (Option Value)} {D : List (Nat × Value)} {st : List Value} {hp : amH} {Q : cQ}
theorem cWl2 {cl : amL} {k : Nat} {v : Value} (hD : D.all (fun y => Nat.ble (y.1 + 2) k) = true) (hd : cWl cl D) : cWl (amSet2 cl k v) ((k, v) :: D) := by
  intro y hy
  rcases List.mem_cons.mp hy with rfl | hy
  · unfold amSet2
    unfold amGet
    rw [if_pos rfl]
  · have g := Nat.le_of_ble_eq_true (List.all_eq_true.mp hD y hy)
    exact mq_ne2 (hd y hy) (fun z => by omega) (by omega) (by omega)
theorem cWdst (q : Nat) {k : Nat} {x : UInt64} (h : xI M pc (.dstore k) a b) (e : q = pc + 2) (hk : Nat.ble L.length k = true) (hm : Nat.ble (k + 2) M.2.1 = true) (hD : D.all (fun y => Nat.ble (y.1 + 2) k) = true) (hw : cW sc d M q L ((k, .double x) :: D) st hp Q) : cW sc d M pc L D (.double x :: st) hp Q := by
  have hm : k + 1 < M.2.1 := Nat.le_of_ble_eq_true hm
  refine cWstep h (fun cl hl hd => ⟨amSet2 cl k (.double x), ?_, lk_up2 hl hk rfl, cWl2 hD hd⟩) hw
  subst e
  simp [amDo, amStep, amSt2, amIsD, hm]
theorem cWlst (q : Nat) {k : Nat} {x : Int64} (h : xI M pc (.lstore k) a b) (e : q = pc + 2) (hk : Nat.ble L.length k = true) (hm : Nat.ble (k + 2) M.2.1 = true) (hD : D.all (fun y => Nat.ble (y.1 + 2) k) = true) (hw : cW sc d M q L ((k, .long x) :: D) st hp Q) : cW sc d M pc L D (.long x :: st) hp Q := by
  have hm : k + 1 < M.2.1 := Nat.le_of_ble_eq_true hm
  refine cWstep h (fun cl hl hd => ⟨amSet2 cl k (.long x), ?_, lk_up2 hl hk rfl, cWl2 hD hd⟩) hw
  subst e
  simp [amDo, amStep, amSt2, amIsJ, hm]
theorem cWdld (q : Nat) {k : Nat} {x : UInt64} (h : xI M pc (.dload k) a b) (e : q = pc + 2) (hD : ∃ j : Nat, D[j]? = some (k, Value.double x)) (hw : cW sc d M q L D (.double x :: st) hp Q) : cW sc d M pc L D st hp Q := by
  refine cWstep h (fun cl hl hd => ⟨cl, ?_, hl, hd⟩) hw
  have hg : amGet cl k = some (.double x) := hd (k, .double x) (List.mem_of_getElem? hD.choose_spec)
  subst e
  simp [amDo, amStep, amLd, hg, amIsD]
theorem cWlld (q : Nat) {k : Nat} {x : Int64} (h : xI M pc (.lload k) a b) (e : q = pc + 2) (hD : ∃ j : Nat, D[j]? = some (k, Value.long x)) (hw : cW sc d M q L D (.long x :: st) hp Q) : cW sc d M pc L D st hp Q := by
  refine cWstep h (fun cl hl hd => ⟨cl, ?_, hl, hd⟩) hw
  have hg : amGet cl k = some (.long x) := hd (k, .long x) (List.mem_of_getElem? hD.choose_spec)
  subst e
  simp [amDo, amStep, amLd, hg, amIsJ]
theorem cWald (q : Nat) {n : Fin 4} {x : Nat} (h : xI M pc (.aload_n n) a b) (e : q = pc + 1) (l : lAt L (n : Nat) = some (some (.ref x))) (hw : cW sc d M q L D (.ref x :: st) hp Q) : cW sc d M pc L D st hp Q := by
  refine cWstep h (fun cl hl hd => ⟨cl, ?_, hl, hd⟩) hw
  have hg := (hl.2 _ _ l).2
  subst e
  simp [amDo, amStep, amLd, hg, isA_ref]
theorem cWdcmp (q : Nat) {op : _} {x y : UInt64} (h : xI M pc (.dcmp op) a b) (e : q = pc + 1) (hw : cW sc d M q L D (.int (Op.cmpValue (FP.dcmp x y) op) :: st) hp Q) : cW sc d M pc L D (.double y :: .double x :: st) hp Q := by
  refine cWstep h (fun cl hl hd => ⟨cl, ?_, hl, hd⟩) hw
  subst e
  simp [amDo, amStep]
theorem cWf2d (q : Nat) {x : UInt32} (h : xI M pc .f2d a b) (e : q = pc + 1) (hx : FP.Core.decode FP.Core.b32 x.toNat ≠ .nan) (hw : cW sc d M q L D (.double (FP.f2d x) :: st) hp Q) : cW sc d M pc L D (.float x :: st) hp Q := by
  refine cWstep h (fun cl hl hd => ⟨cl, ?_, hl, hd⟩) hw
  subst e
  simp only [amDo, amStep]
  rw [if_pos (fl_f2d hx)]
  rfl
theorem cWgoto {i : Int} (h : xI M pc (.goto i) a b) (hw : cW sc d M a L D st hp Q) : cW sc d M pc L D st hp Q := by
  refine cWstep h (fun cl hl hd => ⟨cl, ?_, hl, hd⟩) hw
  simp [amDo, amStep]
theorem cWif_eq (q : Nat) {i : Int} {x : Int32} (h : xI M pc (.ifCond .eq i) a b) (e : q = pc + 3) (hw1 : x = 0 → cW sc d M a L D st hp Q) (hw2 : ¬ x = 0 → cW sc d M q L D st hp Q) : cW sc d M pc L D (.int x :: st) hp Q := by
  subst e
  by_cases hx : x = 0
  · refine cWstep h (fun cl hl hd => ⟨cl, ?_, hl, hd⟩) (hw1 hx)
    simp [amDo, amStep, amIf, amIfP, hx]
  · refine cWstep h (fun cl hl hd => ⟨cl, ?_, hl, hd⟩) (hw2 hx)
    simp [amDo, amStep, amIf, amIfP, hx]
theorem cWif_ne (q : Nat) {i : Int} {x : Int32} (h : xI M pc (.ifCond .ne i) a b) (e : q = pc + 3) (hw1 : ¬ x = 0 → cW sc d M a L D st hp Q) (hw2 : x = 0 → cW sc d M q L D st hp Q) : cW sc d M pc L D (.int x :: st) hp Q := by
  subst e
  by_cases hx : x = 0
  · refine cWstep h (fun cl hl hd => ⟨cl, ?_, hl, hd⟩) (hw2 hx)
    simp [amDo, amStep, amIf, amIfP, hx]
  · refine cWstep h (fun cl hl hd => ⟨cl, ?_, hl, hd⟩) (hw1 hx)
    simp [amDo, amStep, amIf, amIfP, hx]
/-- a call that returns -/
theorem cWcall {q : Nat} {k kd : Nat} {i : Instr} {N : amM} (av rest : List Value) (hH : bHk 84 bTT hp) (h : xI M pc i k b) (hi : (∃ j, i = .invokevirtual j ∧ kd = 0 ∧ ¬ b = 7 ∧ ¬ b = 8) ∨ (∃ j, i = .invokestatic j ∧ kd = 1 ∧ ¬ b = 6)) (e : q = pc + 3) (hst : st = av.reverse ++ rest) (hN : amGG k = some N)
    (hc : N.2.2.1 = av.length ∧ Nat.ble ((av.reverse.map fun v => v.category).sum) N.2.1 = true ∧ Nat.ble ((rest.map fun v => v.category).sum) 8 = true) (hr : amOkS 84 rest = true) (hrec : amRecv kd N.2.2.2.2.2.2 hp av = true)
    (hk : cK d k av hp (fun y hp1 mc ms => ∃ v, y = .inl v ∧ cW sc (d + 1) M q L D (v.toList ++ rest) hp1 (fun y2 hp2 mc2 ms2 => Q y2 hp2 (mc + mc2) (ms + ms2)))) : cW sc (d + 1) M pc L D st hp Q := by
  intro cl hl hd kc ks
  obtain ⟨hu, r, hr2⟩ := h
  obtain ⟨N', hN', f1, y, hp1, mc, ms, hw1, v, rfl, hv⟩ := hk
  rw [hN] at hN'
  cases hN'
  obtain ⟨c1, c3, c4⟩ := hc
  have c3 := Nat.le_of_ble_eq_true c3
  have c4 := Nat.le_of_ble_eq_true c4
  have hlen : av.reverse.length = N.2.2.1 := by rw [List.length_reverse, c1]
  have t1 : st.take N.2.2.1 = av.reverse := by rw [hst, ← hlen, List.take_left]
  have t2 : st.drop N.2.2.1 = rest := by rw [hst, ← hlen, List.drop_left]
  have hcall : amCall amGG kd k cl st hp = some (.inr (.inr (.inr (k, av, rest)))) := by
    unfold amCall
    rw [hN]
    dsimp only
    rw [t1, t2, List.reverse_reverse, if_pos]
    refine ⟨by rw [hst, List.length_append]; omega, c3, ?_, c4⟩
    rw [hH.1, hl.1, hr, hrec]
    rfl
  have hdo : amDo amGG M sc i k b pc cl st hp = some (.inr (.inr (.inr (k, av, rest)))) := by
    rcases hi with ⟨j, rfl, rfl, z1, z2⟩ | ⟨j, rfl, rfl, z1⟩
    · simp only [amDo, z1, z2, if_false]; exact hcall
    · simp only [amDo, z1, if_false]; exact hcall
  rw [hr2]
  obtain ⟨f2, y2, hp2, mc2, ms2, g1, g2⟩ := hv cl hl hd (kc + mc) (ks + ms)
  refine ⟨max f1 f2 + 1, y2, hp2, mc + mc2, ms + ms2, ?_, g2⟩
  have w1 := amRun_more _ _ _ _ _ _ _ _ _ _ _ _ hw1 (max f1 f2) d (Nat.le_max_left _ _) (Nat.le_refl _)
  have w2 := amRun_more _ _ _ _ _ _ _ _ _ _ _ _ g1 (max f1 f2) (d + 1) (Nat.le_max_right _ _) (Nat.le_refl _)
  simp only [amRun, if_true, hdo, hN, w1]
  rw [bUp_next hu (xI_suf hr2), ← e, w2, Nat.add_assoc, Nat.add_assoc]
end CW
theorem qKv {d k : Nat} {av : List Value} {hp : amH} {S : cQ} {Φ : Value → amH → Prop} (h : ∀ R : xQ, (∀ z hp1, Φ z hp1 → R (.inl (some z)) hp1) → xK d k av hp R) (hS : ∀ z hp1, Φ z hp1 → S (.inl (some z)) hp1 0 0) : cK d k av hp S := by
  refine cK_mono (cK_of (h (fun y hp1 => ∃ z, y = .inl (some z) ∧ Φ z hp1) (fun z hp1 g => ⟨z, rfl, g⟩))) (fun y hp1 mc ms hh => ?_)
  obtain ⟨rfl, rfl, z, rfl, g⟩ := hh
  exact hS z hp1 g
end
/-! ##### q49 ##### -/
section
/-! ===== the mean of quadrilaterals on both sides ===== -/
theorem xdcst (q : Nat) {M : amM} {pc a b d : Nat} {L : List (Option Value)} {st : List Value} {hp : amH} {Q : xQ} (h : xI M pc (.dconst 0) a b) (e : q = pc + 1) (hw : xV d M q L (.double FP.dconst0 :: st) hp Q) : xV d M pc L st hp Q := by
  refine xstep h (fun cl hl => ⟨cl, ?_, hl⟩) hw
  subst e
  simp [amDo, amStep]
theorem xi2d (q : Nat) {M : amM} {pc a b d : Nat} {L : List (Option Value)} {st : List Value} {hp : amH} {Q : xQ} {x : Int32} (h : xI M pc .i2d a b) (e : q = pc + 1) (hw : xV d M q L (.double (FP.i2d x) :: st) hp Q) : xV d M pc L (.int x :: st) hp Q := by
  refine xstep h (fun cl hl => ⟨cl, ?_, hl⟩) hw
  subst e
  simp [amDo, amStep, amI]
theorem xdddiv (q : Nat) {M : amM} {pc a b d : Nat} {L : List (Option Value)} {st : List Value} {hp : amH} {Q : xQ} {x y : UInt64} (h : xI M pc .ddiv a b) (e : q = pc + 1) (hc : FP.ddiv x y &&& 0x7fffffffffffffff ≤ 0x7ff0000000000000) (hw : xV d M q L (.double (FP.ddiv x y) :: st) hp Q) : xV d M pc L (.double y :: .double x :: st) hp Q := by
  refine xstep h (fun cl hl => ⟨cl, ?_, hl⟩) hw
  subst e
  simp only [amDo, amStep]
  rw [if_pos hc]
  rfl
theorem xretD {M : amM} {pc a b d : Nat} {L : List (Option Value)} {hp : amH} {Q : xQ} {x : UInt64} (h : xI M pc .dreturn a b) (hr : M.2.2.2.2.1 = some .double) (hQ : Q (.inl (some (.double x))) hp) : xV d M pc L [.double x] hp Q := by
  intro cl hl
  obtain ⟨hu, r, hr2⟩ := h
  rw [hr2]
  refine bWp_ret (q := (pc, .dreturn, a, b)) ?_ hQ
  simp [amDo, amRetV, hr]
/-- four times the quadrilaterals through the triples -/
def mqP (q n : Nat) (D : UInt64) : Prop := (n = 0 ∧ D = FP.dconst0) ∨ (¬ n = 0 ∧ ∃ x y : Int32, x.toInt = ((4 * q : Nat) : Int) ∧ y.toInt = (n : Int) ∧ D = FP.ddiv (FP.i2d x) (FP.i2d y))
theorem mqP_u {q n : Nat} {D E : UInt64} (h1 : mqP q n D) (h2 : mqP q n E) : D = E := by
  rcases h1 with ⟨e1, e2⟩ | ⟨e1, x, y, g1, g2, e2⟩ <;> rcases h2 with ⟨f1, f2⟩ | ⟨f1, x2, y2, k1, k2, f2⟩
  · rw [e2, f2]
  · exact absurd e1 f1
  · exact absurd f1 e1
  · rw [e2, f2, x_eq.mpr (g1.trans k1.symm), x_eq.mpr (g2.trans k2.symm)]
theorem u160 : bUp 0 am_m160.1 = true := by decide +kernel
theorem k_160E {d V n : Nat} {h : Nat → sR} {sv : Option sR} {T : sT} {ty : Nat → Int} {hp : amH} {R : xQ} (hH : bHk 84 bTT hp) (hS : clS hp (V, T, ty) n h sv)
    (hR : ∀ (z : UInt64) hp1, bHk 84 bTT hp1 → cF hp hp1 → clS hp1 (V, T, ty) n h sv → mqP (nQ T) (trL T 225).length z → R (.inl (some (.double z))) hp1) : xK (d + 1) 160 [.ref 0] hp R := by
  have hB : bdOk hp 3 V T := hS.1
  have b0 : rN hp 3 0 = (V : Int) := hB.1
  have hL : lsN hp 3 T 225 := hS.2.1
  have b1 : rN hp 3 1 = (((trL T 225).length : Nat) : Int) := hL.1
  have hT0 : sOk V T := hB.2.1
  have h15 : V ≤ 15 := hT0.2.1
  have l35 : (trL T 225).length ≤ 35 := trL_35 hT0 225
  have nq0 : rN hp 49 0 = ((nQ T : Nat) : Int) := hS.2.2.1.1
  have b2 : rN hp 49 0 = ((nQ T : Nat) : Int) := hS.2.2.1.1
  have h105 : nQ T ≤ 105 := q105 hT0
  refine xin (M := am_m160) rfl rfl rfl ?_
  refine xald 1 ⟨u160, _, rfl⟩ rfl rfl ?_
  refine xgetD 4 (3) hH ⟨u160, _, rfl⟩ rfl (by decide) (by decide) rfl rfl (by decide) ?_
  refine xgetC 7 hH ⟨u160, _, rfl⟩ rfl (by decide) (by decide) rfl rfl (by decide) (fun z4 h4 => ?_)
  refine xif_ne 10 ⟨u160, _, rfl⟩ rfl (fun c7 => ?_) (fun c7 => ?_)
  · refine xcst 15 (4) ⟨u160, _, rfl⟩ rfl (by decide) (fun z14 h14 => ?_)
    refine xald 16 ⟨u160, _, rfl⟩ rfl rfl ?_
    refine xgetD 19 (49) hH ⟨u160, _, rfl⟩ rfl (by decide) (by decide) rfl rfl (by decide) ?_
    refine xgetC 22 hH ⟨u160, _, rfl⟩ rfl (by decide) (by decide) rfl rfl (by decide) (fun z19 h19 => ?_)
    refine xmul 23 (4 * Int32.toInt z19) ⟨u160, _, rfl⟩ rfl (by rw [h14]) (by omega) (by omega) (fun z22 h22 => ?_)
    refine xi2d 24 ⟨u160, _, rfl⟩ rfl ?_
    refine xald 25 ⟨u160, _, rfl⟩ rfl rfl ?_
    refine xgetD 28 (3) hH ⟨u160, _, rfl⟩ rfl (by decide) (by decide) rfl rfl (by decide) ?_
    refine xgetC 31 hH ⟨u160, _, rfl⟩ rfl (by decide) (by decide) rfl rfl (by decide) (fun z28 h28 => ?_)
    refine xi2d 32 ⟨u160, _, rfl⟩ rfl ?_
    refine xdddiv 33 ⟨u160, _, rfl⟩ rfl (fl_ddiv (fl_i2d _) (bI2_nz (by omega) (by omega)).2) ?_
    exact xretD ⟨u160, _, rfl⟩ rfl (hR _ _ hH cF.refl hS (Or.inr ⟨by omega, z22, z28, by omega, by omega, rfl⟩))
  · refine xdcst 11 ⟨u160, _, rfl⟩ rfl ?_
    refine xgoto ⟨u160, _, rfl⟩ ?_
    exact xretD ⟨u160, _, rfl⟩ rfl (hR _ _ hH cF.refl hS (Or.inl ⟨by omega, rfl⟩))
theorem u296 : bUp 0 am_m296.1 = true := by decide +kernel
theorem k_296E {d V n : Nat} {h : Nat → sR} {sv : Option sR} {T : sT} {ty : Nat → Int} {hp : amH} {R : xQ} (hH : bHk 84 bTT hp) (hP : P0 hp) (hS : rfS hp (V, T, ty) n h sv)
    (hR : ∀ (z : UInt64) hp1, bHk 84 bTT hp1 → P0 hp1 → bFr wM hp hp1 → rfS hp1 (V, T, ty) n h sv → mqP (nQ T) (trL T 225).length z → R (.inl (some (.double z))) hp1) : xK (d + 5) 296 [.ref 66] hp R := by
  have hB : rdOk hp V T := rowOk_rd hS.1
  have b0 : rN hp 67 0 = (V : Int) := hB.1
  have hT0 : sOk V T := hB.2.1
  have h15 : V ≤ 15 := hT0.2.1
  have l35 : (trL T 225).length ≤ 35 := trL_35 hT0 225
  have h105 : nQ T ≤ 105 := q105 hT0
  refine xin (M := am_m296) rfl rfl rfl ?_
  refine xald 1 ⟨u296, _, rfl⟩ rfl rfl ?_
  refine xcst 2 (0) ⟨u296, _, rfl⟩ rfl (by decide) (fun z1 h1 => ?_)
  refine xputI 5 hH ⟨u296, _, rfl⟩ rfl rfl ⟨rfl, rfl⟩ (by omega) (by omega) (fun hp2 hH2 U2 => ?_)
  have s2 := U2.1
  have S2 := rfS_W (W := [(66, 7)]) hS (rU_fr U2 rfl) (fun _ => rfl) rfl rfl (fun _ => rfl) (fun _ => rfl)
  have P2 := P0_W (W := [(66, 7)]) (by decide) (rU_fr U2 rfl) hP
  have B2 : rdOk hp2 V T := rowOk_rd S2.1
  refine xald 6 ⟨u296, _, rfl⟩ rfl rfl ?_
  refine xcall 9 [.ref 66] [] hH2 ⟨u296, _, rfl⟩ rfl rfl rfl rfl rfl (k_lqs hH2 B2 (q105 hT0) (fun hp6 hH6 F6 B6 L6 Q6 => ⟨_, rfl, ?_⟩))
  have q6 : rN hp6 66 14 = ((nQ T : Nat) : Int) := Q6.1
  have l6 : rN hp6 66 12 = (((trL T 225).length : Nat) : Int) := L6.1
  refine xald 10 ⟨u296, _, rfl⟩ rfl rfl ?_
  refine xgetI 13 hH6 ⟨u296, _, rfl⟩ rfl rfl (fun z10 h10 => ?_)
  refine xif_ne 16 ⟨u296, _, rfl⟩ rfl (fun c13 => ?_) (fun c13 => ?_)
  · refine xcst 21 (4) ⟨u296, _, rfl⟩ rfl (by decide) (fun z20 h20 => ?_)
    refine xald 22 ⟨u296, _, rfl⟩ rfl rfl ?_
    refine xgetI 25 hH6 ⟨u296, _, rfl⟩ rfl rfl (fun z22 h22 => ?_)
    refine xmul 26 (4 * Int32.toInt z22) ⟨u296, _, rfl⟩ rfl (by rw [h20]) (by omega) (by omega) (fun z25 h25 => ?_)
    refine xi2d 27 ⟨u296, _, rfl⟩ rfl ?_
    refine xald 28 ⟨u296, _, rfl⟩ rfl rfl ?_
    refine xgetI 31 hH6 ⟨u296, _, rfl⟩ rfl rfl (fun z28 h28 => ?_)
    refine xi2d 32 ⟨u296, _, rfl⟩ rfl ?_
    refine xdddiv 33 ⟨u296, _, rfl⟩ rfl (fl_ddiv (fl_i2d _) (bI2_nz (by omega) (by omega)).2) ?_
    exact xretD ⟨u296, _, rfl⟩ rfl (hR _ hp6 hH6 (P0_W (W := wLQE) (by decide) F6 P2) ((rU_fr U2 (by decide)).trans (bFr_sub F6 (by decide))) (rfS_W S2 F6 (fun _ => rfl) rfl rfl (fun _ => rfl) (fun _ => rfl)) (Or.inr ⟨by omega, z25, z28, by omega, by omega, rfl⟩))
  · refine xdcst 17 ⟨u296, _, rfl⟩ rfl ?_
    refine xgoto ⟨u296, _, rfl⟩ ?_
    exact xretD ⟨u296, _, rfl⟩ rfl (hR _ hp6 hH6 (P0_W (W := wLQE) (by decide) F6 P2) ((rU_fr U2 (by decide)).trans (bFr_sub F6 (by decide))) (rfS_W S2 F6 (fun _ => rfl) rfl rfl (fun _ => rfl) (fun _ => rfl)) (Or.inl ⟨by omega, rfl⟩))
end
/-! ##### q50 ##### -/
section
/-! ===== the coverage on both sides ===== -/
theorem xfcst (q : Nat) {M : amM} {pc a b d : Nat} {L : List (Option Value)} {st : List Value} {hp : amH} {Q : xQ} (h : xI M pc (.fconst 0) a b) (e : q = pc + 1) (hw : xV d M q L (.float FP.fconst0 :: st) hp Q) : xV d M pc L st hp Q := by
  refine xstep h (fun cl hl => ⟨cl, ?_, hl⟩) hw
  subst e
  simp [amDo, amStep]
theorem xi2f (q : Nat) {M : amM} {pc a b d : Nat} {L : List (Option Value)} {st : List Value} {hp : amH} {Q : xQ} {x : Int32} (h : xI M pc .i2f a b) (e : q = pc + 1) (hw : xV d M q L (.float (FP.i2f x) :: st) hp Q) : xV d M pc L (.int x :: st) hp Q := by
  refine xstep h (fun cl hl => ⟨cl, ?_, hl⟩) hw
  subst e
  simp [amDo, amStep, amI]
theorem xffdiv (q : Nat) {M : amM} {pc a b d : Nat} {L : List (Option Value)} {st : List Value} {hp : amH} {Q : xQ} {x y : UInt32} (h : xI M pc .fdiv a b) (e : q = pc + 1) (hc : FP.fdiv x y &&& 0x7fffffff ≤ 0x7f800000) (hw : xV d M q L (.float (FP.fdiv x y) :: st) hp Q) : xV d M pc L (.float y :: .float x :: st) hp Q := by
  refine xstep h (fun cl hl => ⟨cl, ?_, hl⟩) hw
  subst e
  simp only [amDo, amStep]
  rw [if_pos hc]
  rfl
theorem xretF {M : amM} {pc a b d : Nat} {L : List (Option Value)} {hp : amH} {Q : xQ} {x : UInt32} (h : xI M pc .freturn a b) (hr : M.2.2.2.2.1 = some .float) (hQ : Q (.inl (some (.float x))) hp) : xV d M pc L [.float x] hp Q := by
  intro cl hl
  obtain ⟨hu, r, hr2⟩ := h
  rw [hr2]
  refine bWp_ret (q := (pc, .freturn, a, b)) ?_ hQ
  simp [amDo, amRetV, hr]
/-- three times the triples through the pairs -/
def cgP (n V : Nat) (D : UInt32) : Prop := (∃ x y : Int32, x.toInt = ((3 * n : Nat) : Int) ∧ y.toInt = ((V * (V - 1) / 2 : Nat) : Int) ∧ D = FP.fdiv (FP.i2f x) (FP.i2f y)) ∧ FP.Core.decode FP.Core.b32 D.toNat ≠ .nan
theorem cgP_u {n V : Nat} {D E : UInt32} (h1 : cgP n V D) (h2 : cgP n V E) : D = E := by
  obtain ⟨⟨x, y, g1, g2, e2⟩, -⟩ := h1
  obtain ⟨⟨x2, y2, k1, k2, f2⟩, -⟩ := h2
  rw [e2, f2, x_eq.mpr (g1.trans k1.symm), x_eq.mpr (g2.trans k2.symm)]
theorem k_6E {d o V : Nat} {T : sT} {hp : amH} {R : xQ} (ho : bo o) (hH : bHk 84 bTT hp) (hB : bdOk hp o V T)
    (hR : ∀ z : Int32, z.toInt = ((V * (V - 1) / 2 : Nat) : Int) → R (.inl (some (.int z))) hp) : xK d 6 [.ref o] hp R := by
  have u6 : bUp 0 am_m6.1 = true := by decide +kernel
  have b0 : rN hp o 0 = (V : Int) := hB.1
  have h3 : 3 ≤ V := hB.2.1.1
  have h15 : V ≤ 15 := hB.2.1.2.1
  have ev : (V : Int) * ((V : Int) - 1) = ((V * (V - 1) : Nat) : Int) := by rw [show (V : Int) - 1 = ((V - 1 : Nat) : Int) by omega, ← Int.natCast_mul]
  have em : V * (V - 1) ≤ 15 * 14 := Nat.mul_le_mul h15 (by omega)
  generalize hw : V * (V - 1) = w at *
  refine xin (M := am_m6) rfl rfl (by unfold xAv; simp [amOk, bo_lt ho, Value.category]) ?_
  refine xald 1 ⟨u6, _, rfl⟩ rfl rfl ?_
  refine xgetC 4 hH ⟨u6, _, rfl⟩ rfl (bo_lt ho) (by decide) (bo_T ho) rfl (by decide) (fun z1 h1 => ?_)
  refine xald 5 ⟨u6, _, rfl⟩ rfl rfl ?_
  refine xgetC 8 hH ⟨u6, _, rfl⟩ rfl (bo_lt ho) (by decide) (bo_T ho) rfl (by decide) (fun z5 h5 => ?_)
  refine xcst 9 (1) ⟨u6, _, rfl⟩ rfl (by decide) (fun z8 h8 => ?_)
  refine xsub 10 _ ⟨u6, _, rfl⟩ rfl rfl (by omega) (by omega) (fun z9 h9 => ?_)
  refine xmul 11 ((V : Int) * ((V : Int) - 1)) ⟨u6, _, rfl⟩ rfl (by rw [show Int32.toInt z1 = (V : Int) by omega, show Int32.toInt z9 = (V : Int) - 1 by omega]) (by omega) (by omega) (fun z10 h10 => ?_)
  rw [ev] at h10
  refine xcst 12 (2) ⟨u6, _, rfl⟩ rfl (by decide) (fun z11 h11 => ?_)
  refine xdiv 13 (Int32.toInt z10 / 2) ⟨u6, _, rfl⟩ rfl (by omega) (by omega) (by rw [h11]) (fun z12 h12 => ?_)
  exact xret ⟨u6, _, rfl⟩ rfl (hR _ (by omega))
theorem u161 : bUp 0 am_m161.1 = true := by decide +kernel
theorem k_161E {d V n : Nat} {h : Nat → sR} {sv : Option sR} {T : sT} {ty : Nat → Int} {hp : amH} {R : xQ} (hH : bHk 84 bTT hp) (hS : clS hp (V, T, ty) n h sv)
    (hR : ∀ (z : UInt32) hp1, bHk 84 bTT hp1 → cF hp hp1 → clS hp1 (V, T, ty) n h sv → cgP (trL T 225).length V z → R (.inl (some (.float z))) hp1) : xK (d + 3) 161 [.ref 0] hp R := by
  have hB : bdOk hp 3 V T := hS.1
  have b0 : rN hp 3 0 = (V : Int) := hB.1
  have hL : lsN hp 3 T 225 := hS.2.1
  have b1 : rN hp 3 1 = (((trL T 225).length : Nat) : Int) := hL.1
  have hT0 : sOk V T := hB.2.1
  have h15 : V ≤ 15 := hT0.2.1
  have l35 : (trL T 225).length ≤ 35 := trL_35 hT0 225
  have nq0 : rN hp 49 0 = ((nQ T : Nat) : Int) := hS.2.2.1.1
  have h3 : 3 ≤ V := hT0.1
  have k := op_half hT0
  have ec : opC V T = V * (V - 1) / 2 - 3 * (trL T 225).length := rfl
  have em : V * (V - 1) / 2 ≤ 15 * 14 / 2 := Nat.div_le_div_right (Nat.mul_le_mul h15 (by omega))
  have en : 3 * 2 / 2 ≤ V * (V - 1) / 2 := Nat.div_le_div_right (Nat.mul_le_mul h3 (by omega))
  refine xin (M := am_m161) rfl rfl rfl ?_
  refine xald 1 ⟨u161, _, rfl⟩ rfl rfl ?_
  refine xgetD 4 (3) hH ⟨u161, _, rfl⟩ rfl (by decide) (by decide) rfl rfl (by decide) ?_
  refine xcallC 7 (o := 3) [] [] hH ⟨u161, _, rfl⟩ rfl rfl (by decide) rfl (by decide) rfl ⟨rfl, rfl, rfl, rfl⟩ rfl (k_6E (o := 3) (Or.inl rfl) hH hB (fun z4 h4 => ⟨_, rfl, ?_⟩))
  refine xist 8 ⟨u161, _, rfl⟩ rfl rfl ?_
  refine xild 9 ⟨u161, _, rfl⟩ rfl rfl ?_
  refine xif_ne 12 ⟨u161, _, rfl⟩ rfl (fun c9 => ?_) (fun c9 => ?_)
  · refine xild 17 ⟨u161, _, rfl⟩ rfl rfl ?_
    refine xald 18 ⟨u161, _, rfl⟩ rfl rfl ?_
    refine xgetD 21 (3) hH ⟨u161, _, rfl⟩ rfl (by decide) (by decide) rfl rfl (by decide) ?_
    refine xcallC 24 (o := 3) [] [.int _] hH ⟨u161, _, rfl⟩ rfl rfl (by decide) rfl (by decide) rfl ⟨rfl, rfl, rfl, rfl⟩ rfl (k_23E (o := 3) (Or.inl rfl) hH hB (fun z21 h21 => ⟨_, rfl, ?_⟩))
    refine xsub 25 _ ⟨u161, _, rfl⟩ rfl rfl (by omega) (by omega) (fun z24 h24 => ?_)
    refine xi2f 26 ⟨u161, _, rfl⟩ rfl ?_
    refine xild 27 ⟨u161, _, rfl⟩ rfl rfl ?_
    refine xi2f 28 ⟨u161, _, rfl⟩ rfl ?_
    refine xffdiv 29 ⟨u161, _, rfl⟩ rfl ((fl_fdiv (fl_i2f _) (bI2_nz (by omega) (by omega)).1).1) ?_
    exact xretF ⟨u161, _, rfl⟩ rfl (hR _ _ hH cF.refl hS ⟨⟨z24, z4, by omega, by omega, rfl⟩, (fl_fdiv (fl_i2f _) (bI2_nz (by omega) (by omega)).1).2⟩)
  · refine xfcst 13 ⟨u161, _, rfl⟩ rfl ?_
    refine xgoto ⟨u161, _, rfl⟩ ?_
    exfalso
    omega
theorem u325 : bUp 0 am_m325.1 = true := by decide +kernel
theorem k_325E {d V n : Nat} {h : Nat → sR} {sv : Option sR} {T : sT} {ty : Nat → Int} {hp : amH} {R : xQ} (hH : bHk 84 bTT hp) (hP : P0 hp) (hS : rfS hp (V, T, ty) n h sv)
    (hR : ∀ (z : UInt32) hp1, bHk 84 bTT hp1 → P0 hp1 → bFr wM hp hp1 → rfS hp1 (V, T, ty) n h sv → cgP (trL T 225).length V z → R (.inl (some (.float z))) hp1) : xK (d + 4) 325 [.ref 66] hp R := by
  have hB : rdOk hp V T := rowOk_rd hS.1
  have b0 : rN hp 67 0 = (V : Int) := hB.1
  have hT0 : sOk V T := hB.2.1
  have h15 : V ≤ 15 := hT0.2.1
  have l35 : (trL T 225).length ≤ 35 := trL_35 hT0 225
  have h3 : 3 ≤ V := hT0.1
  have k := op_half hT0
  have ec : opC V T = V * (V - 1) / 2 - 3 * (trL T 225).length := rfl
  have em : V * (V - 1) / 2 ≤ 15 * 14 / 2 := Nat.div_le_div_right (Nat.mul_le_mul h15 (by omega))
  have en : 3 * 2 / 2 ≤ V * (V - 1) / 2 := Nat.div_le_div_right (Nat.mul_le_mul h3 (by omega))
  have ev : (V : Int) * ((V : Int) - 1) / 2 = ((V * (V - 1) / 2 : Nat) : Int) := by
    rw [show (V : Int) - 1 = ((V - 1 : Nat) : Int) by omega, ← Int.natCast_mul]
    rfl
  refine xin (M := am_m325) rfl rfl rfl ?_
  refine xald 1 ⟨u325, _, rfl⟩ rfl rfl ?_
  refine xcst 2 (0) ⟨u325, _, rfl⟩ rfl (by decide) (fun z1 h1 => ?_)
  refine xputI 5 hH ⟨u325, _, rfl⟩ rfl rfl ⟨rfl, rfl⟩ (by omega) (by omega) (fun hp2 hH2 U2 => ?_)
  have s2 := U2.1
  have S2 := rfS_W (W := [(66, 7)]) hS (rU_fr U2 rfl) (fun _ => rfl) rfl rfl (fun _ => rfl) (fun _ => rfl)
  have P2 := P0_W (W := [(66, 7)]) (by decide) (rU_fr U2 rfl) hP
  have B2 : rdOk hp2 V T := rowOk_rd S2.1
  refine xcst 6 (3) ⟨u325, _, rfl⟩ rfl (by decide) (fun z5 h5 => ?_)
  refine xald 7 ⟨u325, _, rfl⟩ rfl rfl ?_
  refine xcall 10 [.ref 66] [.int _] hH2 ⟨u325, _, rfl⟩ rfl rfl rfl rfl rfl (k_rtm hH2 B2 (fun z7 hp7 hH7 F7 B7 L7 h7 => ⟨_, rfl, ?_⟩))
  have P7 := P0_W (W := bLT) (by decide) F7 P2
  refine xmul 11 (3 * Int32.toInt z7) ⟨u325, _, rfl⟩ rfl (by rw [h5]) (by omega) (by omega) (fun z10 h10 => ?_)
  refine xi2f 12 ⟨u325, _, rfl⟩ rfl ?_
  refine xald 13 ⟨u325, _, rfl⟩ rfl rfl ?_
  refine xcall 16 [.ref 66] [.float _] hH7 ⟨u325, _, rfl⟩ rfl rfl rfl rfl rfl (k_pairs hH7 P7 (fun z13 h13 => ⟨_, rfl, ?_⟩))
  rw [B7.1, ev] at h13
  refine xi2f 17 ⟨u325, _, rfl⟩ rfl ?_
  refine xffdiv 18 ⟨u325, _, rfl⟩ rfl ((fl_fdiv (fl_i2f _) (bI2_nz (by omega) (by omega)).1).1) ?_
  exact xretF ⟨u325, _, rfl⟩ rfl (hR _ hp7 hH7 P7 ((rU_fr U2 (by decide)).trans (bFr_sub F7 (by decide))) (rfS_W S2 F7 (fun _ => rfl) rfl rfl (fun _ => rfl) (fun _ => rfl)) ⟨⟨z10, z13, by omega, by omega, rfl⟩, (fl_fdiv (fl_i2f _) (bI2_nz (by omega) (by omega)).1).2⟩)
end
