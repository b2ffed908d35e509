/-! ===== the cycles of two points (pure) ===== -/
section CY
variable {V : Nat} {T : sT} {a b : Nat}
/-- y is on the cycle of x -/
abbrev onC (T : sT) (a b x y : Nat) : Prop := ∃ k, k < cyL T a b x ∧ wl T a b false k x = some y
theorem onC_of {x y k : Nat} (hT : sOk V T) (h : 0 < cyL T a b x) (hy : wl T a b false k x = some y) : onC T a b x y := by
  obtain ⟨c1, c2, c3, c4⟩ := cyL_s hT h
  exact ⟨k % cyL T a b x, Nat.mod_lt k h, by rw [← wl_mod c4 c2]; exact hy⟩
theorem onC_x {x : Nat} (h : 0 < cyL T a b x) : onC T a b x x := ⟨0, h, rfl⟩
theorem onC_sym {x y : Nat} (hT : sOk V T) (h : 0 < cyL T a b x) (hy : onC T a b x y) : 0 < cyL T a b y ∧ onC T a b y x ∧ ∀ z, onC T a b x z ↔ onC T a b y z := by
  obtain ⟨c1, c2, c3, c4⟩ := cyL_s hT h
  obtain ⟨k, k1, k2⟩ := hy
  obtain ⟨⟨j, hj⟩, g2, g3⟩ := wl_sym hT c4 h c2 k2
  have hp : 0 < cyL T a b y := cyL_pos h c1 g2
  have yx := onC_of hT hp hj
  refine ⟨hp, yx, fun z => ⟨fun hz => ?_, fun hz => ?_⟩⟩
  · obtain ⟨d1, d2, d3, d4⟩ := cyL_s hT hp
    obtain ⟨i, i1, i2⟩ := yx
    obtain ⟨-, -, q3⟩ := wl_sym hT d4 hp d2 i2
    obtain ⟨m, m1, m2⟩ := hz
    obtain ⟨r, hr⟩ := q3 m z m2
    exact onC_of hT hp hr
  · obtain ⟨m, m1, m2⟩ := hz
    obtain ⟨r, hr⟩ := g3 m z m2
    exact onC_of hT h hr
/-- a point begins a cycle: it is its smallest -/
def cyB (T : sT) (a b x : Nat) : Bool := decide (¬ x = a ∧ ¬ x = b ∧ ¬ T a b = (x : Int) ∧ 0 < cyL T a b x ∧ ∀ k, k < cyL T a b x → x ≤ rk T a b x k)
theorem rk_some {x k y : Nat} (h : wl T a b false k x = some y) : rk T a b x k = y := by show (wl T a b false k x).getD 0 = y; rw [h]; rfl
theorem cyB_s {x : Nat} (hT : sOk V T) : cyB T a b x = true ↔ (¬ x = a ∧ ¬ x = b ∧ ¬ T a b = (x : Int) ∧ 0 < cyL T a b x ∧ ∀ y, onC T a b x y → x ≤ y) := by
  unfold cyB
  rw [decide_eq_true_iff]
  constructor
  · rintro ⟨h1, h2, h3, h4, h5⟩
    refine ⟨h1, h2, h3, h4, fun y hy => ?_⟩
    obtain ⟨k, k1, k2⟩ := hy
    have := h5 k k1
    rw [rk_some k2] at this
    exact this
  · rintro ⟨h1, h2, h3, h4, h5⟩
    refine ⟨h1, h2, h3, h4, fun k hk => ?_⟩
    obtain ⟨c1, c2, c3, c4⟩ := cyL_s hT h4
    obtain ⟨v, hv⟩ := wl_all c4 h4 c2 k
    rw [rk_some hv]
    exact h5 v ⟨k, hk, hv⟩
/-- on two cycles: they are one -/
theorem cyB_one {x y u : Nat} (hT : sOk V T) (hx : cyB T a b x = true) (hy : cyB T a b y = true) (h1 : onC T a b x u) (h2 : onC T a b y u) : x = y := by
  obtain ⟨-, -, -, px, mx⟩ := (cyB_s hT).mp hx
  obtain ⟨-, -, -, py, my⟩ := (cyB_s hT).mp hy
  obtain ⟨pu, ux, ex⟩ := onC_sym hT px h1
  obtain ⟨-, uy, ey⟩ := onC_sym hT py h2
  have a1 := mx y ((ex y).mpr uy)
  have a2 := my x ((ey x).mpr ux)
  omega
/-- what has been seen below x -/
abbrev seenC (T : sT) (a b x u : Nat) : Prop := u = a ∨ u = b ∨ T a b = (u : Int) ∨ ∃ y, y < x ∧ cyB T a b y = true ∧ onC T a b y u
theorem seen_no {x : Nat} (hT : sOk V T) (h : seenC T a b x x) : ¬ cyB T a b x = true := fun z => by
  obtain ⟨z1, z2, z3, z4, z5⟩ := (cyB_s hT).mp z
  rcases h with h | h | h | ⟨y, y1, y2, y3⟩
  · exact z1 h
  · exact z2 h
  · exact z3 h
  · have := cyB_one hT z y2 (onC_x z4) y3
    omega
theorem seen_yes {x : Nat} (hT : sOk V T) (h : ¬ seenC T a b x x) (hp : 0 < cyL T a b x) : cyB T a b x = true := by
  have ho : ¬ x = a ∧ ¬ x = b ∧ ¬ T a b = (x : Int) := ⟨fun z => h (Or.inl z), fun z => h (Or.inr (Or.inl z)), fun z => h (Or.inr (Or.inr (Or.inl z)))⟩
  refine (cyB_s hT).mpr ⟨ho.1, ho.2.1, ho.2.2, hp, ?_⟩
  have key : ∀ n z, z < n → onC T a b x z → x ≤ z := by
    intro n
    induction n with
    | zero => exact fun z hz => absurd hz (Nat.not_lt_zero z)
    | succ n ih =>
      intro z hz hc
      rcases Nat.lt_or_ge z x with g | g
      · exfalso
        obtain ⟨pz, zx, ez⟩ := onC_sym hT hp hc
        obtain ⟨k, k1, k2⟩ := hc
        have oz := wl_offs hT k false x z ho k2
        by_cases hb : cyB T a b z = true
        · exact h (Or.inr (Or.inr (Or.inr ⟨z, g, hb, zx⟩)))
        · apply hb
          refine (cyB_s hT).mpr ⟨oz.1, oz.2.1, oz.2.2, pz, fun y hy => ?_⟩
          have yx := (ez y).mpr hy
          rcases Nat.lt_or_ge y z with g2 | g2
          · have := ih y (by omega) yx
            omega
          · exact g2
      · exact g
  exact fun y hy => key (y + 1) y (Nat.lt_succ_self y) hy
theorem seen_succ {x u : Nat} : seenC T a b (x + 1) u ↔ (seenC T a b x u ∨ (cyB T a b x = true ∧ onC T a b x u)) := by
  constructor
  · rintro (h | h | h | ⟨y, y1, y2, y3⟩)
    · exact Or.inl (Or.inl h)
    · exact Or.inl (Or.inr (Or.inl h))
    · exact Or.inl (Or.inr (Or.inr (Or.inl h)))
    · by_cases e : y = x
      · subst e; exact Or.inr ⟨y2, y3⟩
      · exact Or.inl (Or.inr (Or.inr (Or.inr ⟨y, by omega, y2, y3⟩)))
  · rintro ((h | h | h | ⟨y, y1, y2, y3⟩) | ⟨h1, h2⟩)
    · exact Or.inl h
    · exact Or.inr (Or.inl h)
    · exact Or.inr (Or.inr (Or.inl h))
    · exact Or.inr (Or.inr (Or.inr ⟨y, by omega, y2, y3⟩))
    · exact Or.inr (Or.inr (Or.inr ⟨x, Nat.lt_succ_self x, h1, h2⟩))
/-! how many -/
abbrev cyS (T : sT) (a b n : Nat) : List Nat := fL (cyB T a b) n
def offs (T : sT) (a b : Nat) (L : List Nat) (q : Nat) : Nat := sm (fun i => cyL T a b (L.getD i 0)) q
theorem cyS_get {n q : Nat} (h : q < (cyS T a b n).length) : cyB T a b ((cyS T a b n).getD q 0) = true ∧ (cyS T a b n).getD q 0 < n := by
  obtain ⟨g1, g2, -⟩ := fL_get (B := cyB T a b) n q h
  exact ⟨g1, g2⟩
theorem cyS_inj {n q r : Nat} (hq : q < (cyS T a b n).length) (hr : r < (cyS T a b n).length) (e : (cyS T a b n).getD q 0 = (cyS T a b n).getD r 0) : q = r := by
  obtain ⟨-, -, g1⟩ := fL_get (B := cyB T a b) n q hq
  obtain ⟨-, -, g2⟩ := fL_get (B := cyB T a b) n r hr
  exact g1.symm.trans ((congrArg (fun z => (fL (cyB T a b) z).length) e).trans g2)
/-- the points of a cycle counted -/
theorem onC_sm {x : Nat} (hT : sOk V T) (hx : x < V) (hp : 0 < cyL T a b x) : sm (fun u => sm (fun k => iv (wl T a b false k x = some u)) (cyL T a b x)) 15 = cyL T a b x := by
  have hV := hT.2.1
  obtain ⟨c1, c2, c3, c4⟩ := cyL_s hT hp
  rw [sm_swap]
  have e : sm (fun k => sm (fun u => iv (wl T a b false k x = some u)) 15) (cyL T a b x) = sm (fun _ => 1) (cyL T a b x) := sm_ext _ (fun k hk => by
    obtain ⟨v, hv⟩ := wl_all c4 hp c2 k
    have lv := wl_lt hT hx hv
    exact sm_one (k := v) (by omega) (iv_t hv) (fun u _ hu => iv_f (fun z => hu (Option.some.inj (z.symm.trans hv)))))
  rw [e, sm_const, Nat.mul_one]
theorem iv_onC {x u : Nat} (hT : sOk V T) (hp : 0 < cyL T a b x) : sm (fun k => iv (wl T a b false k x = some u)) (cyL T a b x) ≤ 1 ∧ (0 < sm (fun k => iv (wl T a b false k x = some u)) (cyL T a b x) → onC T a b x u) := by
  by_cases h : onC T a b x u
  · obtain ⟨k, k1, k2⟩ := id h
    have e : sm (fun k => iv (wl T a b false k x = some u)) (cyL T a b x) = 1 := sm_one k1 (iv_t k2) (fun i hi hne => iv_f (fun z => by
      rcases Nat.lt_or_gt_of_ne hne with g | g
      · exact wl_dif hT hp g k1 (z.trans k2.symm)
      · exact wl_dif hT hp g hi (k2.trans z.symm)))
    exact ⟨by omega, fun _ => h⟩
  · have e : sm (fun k => iv (wl T a b false k x = some u)) (cyL T a b x) = 0 := sm_none (fun k hk => iv_f (fun z => h ⟨k, hk, z⟩))
    exact ⟨by omega, fun z => by omega⟩
/-- a, b and the points of the cycles: 15 at most -/
theorem cy_15 {n : Nat} (hT : sOk V T) (ha : a < V) (hb : b < V) (hab : ¬ a = b) (hn : n ≤ V) : 2 + offs T a b (cyS T a b n) (cyS T a b n).length ≤ 15 ∧ 4 * (cyS T a b n).length ≤ offs T a b (cyS T a b n) (cyS T a b n).length ∧ ∀ q, q ≤ (cyS T a b n).length → offs T a b (cyS T a b n) q ≤ offs T a b (cyS T a b n) (cyS T a b n).length := by
  have hV := hT.2.1
  have pos : ∀ q, q < (cyS T a b n).length → 0 < cyL T a b ((cyS T a b n).getD q 0) ∧ (cyS T a b n).getD q 0 < V := fun q hq => by
    obtain ⟨g1, g2⟩ := cyS_get hq
    exact ⟨((cyB_s hT).mp g1).2.2.2.1, by omega⟩
  refine ⟨?_, ?_, ?_⟩
  · have e1 : offs T a b (cyS T a b n) (cyS T a b n).length = sm (fun i => sm (fun u => sm (fun k => iv (wl T a b false k ((cyS T a b n).getD i 0) = some u)) (cyL T a b ((cyS T a b n).getD i 0))) 15) (cyS T a b n).length := by
      unfold offs
      exact sm_ext _ (fun i hi => (onC_sm hT (pos i hi).2 (pos i hi).1).symm)
    rw [sm_swap] at e1
    have e2 : sm (fun u => iv (u = a) + iv (u = b) + sm (fun i => sm (fun k => iv (wl T a b false k ((cyS T a b n).getD i 0) = some u)) (cyL T a b ((cyS T a b n).getD i 0))) (cyS T a b n).length) 15 ≤ sm (fun _ => 1) 15 := sm_le 15 (fun u _ => by
      by_cases h : ∃ i, i < (cyS T a b n).length ∧ onC T a b ((cyS T a b n).getD i 0) u
      · obtain ⟨i, i1, i2⟩ := h
        obtain ⟨g1, g2⟩ := cyS_get i1
        obtain ⟨o1, o2, o3, o4, o5⟩ := (cyB_s hT).mp g1
        obtain ⟨k, k1, k2⟩ := id i2
        have off := wl_offs hT k false _ u ⟨o1, o2, o3⟩ k2
        rw [iv_f off.1, iv_f off.2.1]
        have : sm (fun i => sm (fun k => iv (wl T a b false k ((cyS T a b n).getD i 0) = some u)) (cyL T a b ((cyS T a b n).getD i 0))) (cyS T a b n).length = sm (fun k => iv (wl T a b false k ((cyS T a b n).getD i 0) = some u)) (cyL T a b ((cyS T a b n).getD i 0)) := sm_one i1 rfl (fun j hj hne => by
          have g := iv_onC (u := u) hT (pos j hj).1
          rcases Nat.eq_zero_or_pos (sm (fun k => iv (wl T a b false k ((cyS T a b n).getD j 0) = some u)) (cyL T a b ((cyS T a b n).getD j 0))) with z | z
          · exact z
          · exfalso
            exact hne (cyS_inj hj i1 (cyB_one hT (cyS_get hj).1 g1 (g.2 z) i2)))
        rw [this]
        have g := (iv_onC (u := u) hT (pos i i1).1).1
        omega
      · have : sm (fun i => sm (fun k => iv (wl T a b false k ((cyS T a b n).getD i 0) = some u)) (cyL T a b ((cyS T a b n).getD i 0))) (cyS T a b n).length = 0 := sm_none (fun j hj => by
          have g := iv_onC (u := u) hT (pos j hj).1
          rcases Nat.eq_zero_or_pos (sm (fun k => iv (wl T a b false k ((cyS T a b n).getD j 0) = some u)) (cyL T a b ((cyS T a b n).getD j 0))) with z | z
          · exact z
          · exact absurd ⟨j, hj, g.2 z⟩ h)
        rw [this]
        by_cases g1 : u = a
        · rw [iv_t g1, iv_f (by omega)]; omega
        · rw [iv_f g1]
          have := iv_le (p := u = b)
          omega)
    rw [sm_add, sm_add, sm_eq1 (by omega), sm_eq1 (by omega), ← e1, sm_const] at e2
    omega
  · have := sm_le (f := fun _ => 4) (g := fun i => cyL T a b ((cyS T a b n).getD i 0)) (cyS T a b n).length (fun i hi => cyL_4 hT hab (pos i hi).1)
    rw [sm_const] at this
    show 4 * _ ≤ sm _ _
    omega
  · intro q hq
    obtain ⟨m, e⟩ := Nat.exists_eq_add_of_le hq
    unfold offs
    rw [e, sm_split]
    exact Nat.le_add_right _ _
end CY
