/-! ##### 19.m.090.40a ##### -/
section
/-! ===== walks along cycles of two points (pure) ===== -/
noncomputable def abS (a b : Nat) (s : Bool) : Nat := if s = true then b else a
/-- so many steps from a point, a and b in turn; s: which comes first -/
noncomputable def wl (T : sT) (a b : Nat) : Bool → Nat → Nat → Option Nat
  | _, 0, u => some u
  | s, n + 1, u => if T (abS a b s) u = -1 then none else wl T a b (!s) n (T (abS a b s) u).toNat
/-- which comes behind so many -/
noncomputable def pr2 (s : Bool) : Nat → Bool
  | 0 => s
  | n + 1 => pr2 (!s) n
theorem pr2_succ : ∀ (n : Nat) (s : Bool), pr2 s (n + 1) = !pr2 s n
  | 0, s => rfl
  | n + 1, s => pr2_succ n (!s)
theorem pr2_mod : ∀ (n : Nat), pr2 false n = decide (n % 2 = 1)
  | 0 => rfl
  | n + 1 => by
    rw [pr2_succ, pr2_mod n]
    by_cases h : n % 2 = 1
    · rw [decide_eq_true h, decide_eq_false (by omega)]; rfl
    · rw [decide_eq_false h, decide_eq_true (by omega)]; rfl
theorem pr2_even {n : Nat} (h : n % 2 = 0) : ∀ s, pr2 s n = s := fun s => by
  have e : ∀ n s, pr2 s (n + 2) = pr2 s n := fun n s => by show pr2 (!!s) n = _; rw [Bool.not_not]
  have go : ∀ k s, pr2 s (2 * k) = s := fun k => by
    induction k with
    | zero => exact fun s => rfl
    | succ k ih => exact fun s => by rw [show 2 * (k + 1) = 2 * k + 2 by omega, e]; exact ih s
  have := go (n / 2) s
  rw [show 2 * (n / 2) = n by omega] at this
  exact this
theorem pr2_odd {n : Nat} (h : n % 2 = 1) : ∀ s, pr2 s n = !s := fun s => by
  have e := pr2_succ (n - 1) s
  rw [show n - 1 + 1 = n by omega, pr2_even (n := n - 1) (by omega)] at e
  exact e
section WK
variable {V : Nat} {T : sT} {a b : Nat}
theorem wl_add : ∀ (n m : Nat) (s : Bool) (u : Nat), wl T a b s (n + m) u = (wl T a b s n u).bind (fun v => wl T a b (pr2 s n) m v)
  | 0, m, s, u => by rw [Nat.zero_add]; rfl
  | n + 1, m, s, u => by
    rw [show n + 1 + m = (n + m) + 1 by omega]
    show (if T (abS a b s) u = -1 then none else wl T a b (!s) (n + m) (T (abS a b s) u).toNat) = (if T (abS a b s) u = -1 then none else wl T a b (!s) n (T (abS a b s) u).toNat).bind (fun v => wl T a b (pr2 s (n + 1)) m v)
    by_cases h : T (abS a b s) u = -1
    · rw [if_pos h, if_pos h]; rfl
    · rw [if_neg h, if_neg h, wl_add n m (!s)]
      rfl
theorem wl_add_s {n m : Nat} {s : Bool} {u v : Nat} (h : wl T a b s n u = some v) : wl T a b s (n + m) u = wl T a b (pr2 s n) m v := by
  rw [wl_add, h]
  rfl
/-- one step on -/
theorem wl_next {n : Nat} {s : Bool} {u v : Nat} (h : wl T a b s n u = some v) : wl T a b s (n + 1) u = if T (abS a b (pr2 s n)) v = -1 then none else some (T (abS a b (pr2 s n)) v).toNat := by
  rw [wl_add_s h]
  rfl
theorem wl_pre {n m : Nat} {s : Bool} {u w : Nat} (h : wl T a b s (n + m) u = some w) : ∃ v, wl T a b s n u = some v ∧ wl T a b (pr2 s n) m v = some w := by
  rw [wl_add] at h
  cases e : wl T a b s n u with
  | none => rw [e] at h; cases h
  | some v => rw [e] at h; exact ⟨v, rfl, h⟩
theorem st_in (hT : sOk V T) {c u v : Nat} (h : T c u = (v : Int)) : T c v = (u : Int) ∧ ¬ u = v ∧ u < V ∧ v < V ∧ ¬ c = u ∧ ¬ c = v := by
  obtain ⟨k, ek, l1, l2, l3, d1, d2, d3, t1, t2, t3, t4, t5⟩ := sOk_at hT h (by omega)
  have : k = v := by omega
  subst this
  exact ⟨t2, d3, l2, l3, d1, d2⟩
/-- a step is undone by the same step -/
theorem wl_1 (hT : sOk V T) {s : Bool} {u v : Nat} : wl T a b s 1 u = some v ↔ T (abS a b s) u = (v : Int) := by
  show (if T (abS a b s) u = -1 then none else some (T (abS a b s) u).toNat) = some v ↔ _
  constructor
  · intro h
    by_cases e : T (abS a b s) u = -1
    · rw [if_pos e] at h; cases h
    · rw [if_neg e] at h
      obtain ⟨k, ek, -⟩ := sOk_at hT (rfl : T (abS a b s) u = _) e
      cases h
      rw [ek, Int.toNat_natCast]
  · intro h
    rw [if_neg (by omega), h, Int.toNat_natCast]
/-- so many steps back -/
theorem wl_back (hT : sOk V T) : ∀ (n : Nat) (s : Bool) (u v : Nat), wl T a b s n u = some v → wl T a b (!pr2 s n) n v = some u
  | 0, s, u, v, h => by cases h; rfl
  | n + 1, s, u, v, h => by
    rw [show n + 1 = 1 + n by omega] at h
    obtain ⟨w, h1, h2⟩ := wl_pre h
    have i := wl_back hT n (!s) w v h2
    have e1 := (st_in hT ((wl_1 hT).mp h1)).1
    have e2 : pr2 s (n + 1) = pr2 (!s) n := rfl
    rw [e2, wl_add_s i]
    have e3 : pr2 (!pr2 (!s) n) n = s := by
      rcases Nat.mod_two_eq_zero_or_one n with g | g
      · rw [pr2_even g, pr2_even g, Bool.not_not]
      · rw [pr2_odd g, pr2_odd g, Bool.not_not, Bool.not_not]
    rw [e3]
    exact (wl_1 hT).mpr e1
theorem wl_inj (hT : sOk V T) {n : Nat} {s : Bool} {u w v : Nat} (h1 : wl T a b s n u = some v) (h2 : wl T a b s n w = some v) : u = w := by
  have a1 := wl_back hT n s u v h1
  have a2 := wl_back hT n s w v h2
  exact Option.some.inj (a1.symm.trans a2)
/-- no walk of an odd number of steps comes back -/
theorem wl_odd (hT : sOk V T) : ∀ (m : Nat) (s : Bool) (u : Nat), ¬ wl T a b s (2 * m + 1) u = some u
  | 0, s, u, h => by
    have := (st_in hT ((wl_1 hT).mp h)).2.1
    exact this rfl
  | m + 1, s, u, h => by
    rw [show 2 * (m + 1) + 1 = 1 + ((2 * m + 1) + 1) by omega] at h
    obtain ⟨v, h1, h2⟩ := wl_pre h
    obtain ⟨w, h3, h4⟩ := wl_pre h2
    have e1 := (wl_1 hT).mp h1
    have e4 := (wl_1 hT).mp h4
    have ep : pr2 (pr2 s 1) (2 * m + 1) = s := by
      rw [pr2_odd (by omega), pr2_odd (by omega), Bool.not_not]
    rw [ep] at e4
    have e5 := (st_in hT e4).1
    have : v = w := by
      have := e1.symm.trans e5
      omega
    subst this
    exact wl_odd hT m _ v h3
theorem wl_lt (hT : sOk V T) {n : Nat} {s : Bool} {u v : Nat} (hu : u < V) (h : wl T a b s n u = some v) : v < V := by
  cases n with
  | zero => cases h; exact hu
  | succ n =>
    obtain ⟨w, h1, h2⟩ := wl_pre h
    exact (st_in hT ((wl_1 hT).mp h2)).2.2.2.1
/-- a walk keeps off a, b and their third point -/
theorem wl_off (hT : sOk V T) {s : Bool} {u v : Nat} (hu : ¬ u = a ∧ ¬ u = b ∧ ¬ T a b = (u : Int)) (h : T (abS a b s) u = (v : Int)) : ¬ v = a ∧ ¬ v = b ∧ ¬ T a b = (v : Int) := by
  have hb : ∀ c d : Nat, T c d = (u : Int) → T d c = (u : Int) := fun c d e => by
    obtain ⟨k, ek, -, -, -, -, -, -, t1, -⟩ := sOk_at hT e (by omega)
    omega
  cases s
  · have h : T a u = (v : Int) := h
    obtain ⟨k, ek, l1, l2, l3, d1, d2, d3, t1, t2, t3, t4, t5⟩ := sOk_at hT h (by omega)
    have : k = v := by omega
    subst this
    refine ⟨fun z => d2 z.symm, fun z => ?_, fun z => ?_⟩
    · subst z; exact hu.2.2 t2
    · obtain ⟨r, er, -, -, -, -, -, -, q1, q2, -⟩ := sOk_at hT z (by omega)
      have : r = k := by omega
      subst this
      have : (b : Int) = (u : Int) := q2.symm.trans t2
      omega
  · have h : T b u = (v : Int) := h
    obtain ⟨k, ek, l1, l2, l3, d1, d2, d3, t1, t2, t3, t4, t5⟩ := sOk_at hT h (by omega)
    have : k = v := by omega
    subst this
    refine ⟨fun z => ?_, fun z => d2 z.symm, fun z => ?_⟩
    · subst z; exact hu.2.2 (hb _ _ t2)
    · obtain ⟨r, er, -, -, -, -, -, -, q1, q2, q3, -⟩ := sOk_at hT z (by omega)
      have : r = k := by omega
      subst this
      have : (a : Int) = (u : Int) := q3.symm.trans t2
      omega
theorem wl_offs (hT : sOk V T) : ∀ (n : Nat) (s : Bool) (u v : Nat), (¬ u = a ∧ ¬ u = b ∧ ¬ T a b = (u : Int)) → wl T a b s n u = some v → ¬ v = a ∧ ¬ v = b ∧ ¬ T a b = (v : Int)
  | 0, s, u, v, hu, h => by cases h; exact hu
  | n + 1, s, u, v, hu, h => by
    rw [show n + 1 = 1 + n by omega] at h
    obtain ⟨w, h1, h2⟩ := wl_pre h
    exact wl_offs hT n _ w v (wl_off hT hu ((wl_1 hT).mp h1)) h2
/-! how far a walk goes until it is back -/
noncomputable def clF (T : sT) (a b x : Nat) : Nat → Nat → Nat
  | 0, _ => 0
  | f + 1, k => if wl T a b false (k + 1) x = some x then k + 1 else if wl T a b false (k + 1) x = none then 0 else clF T a b x f (k + 1)
noncomputable abbrev cyL (T : sT) (a b x : Nat) : Nat := clF T a b x 15 0
theorem clF_s (T : sT) (a b x : Nat) : ∀ (f k : Nat), (∀ j, 0 < j → j ≤ k → ¬ wl T a b false j x = some x) → (clF T a b x f k = 0 ∧ ∀ j, 0 < j → j ≤ k + f → ¬ wl T a b false j x = some x) ∨ (0 < clF T a b x f k ∧ k < clF T a b x f k ∧ clF T a b x f k ≤ k + f ∧ wl T a b false (clF T a b x f k) x = some x ∧ ∀ j, 0 < j → j < clF T a b x f k → ¬ wl T a b false j x = some x)
  | 0, k, h => Or.inl ⟨rfl, h⟩
  | f + 1, k, h => by
    unfold clF
    by_cases e : wl T a b false (k + 1) x = some x
    · rw [if_pos e]
      exact Or.inr ⟨Nat.succ_pos k, Nat.lt_succ_self k, by omega, e, fun j j1 j2 => h j j1 (by omega)⟩
    · rw [if_neg e]
      by_cases g : wl T a b false (k + 1) x = none
      · rw [if_pos g]
        refine Or.inl ⟨rfl, fun j j1 j2 z => ?_⟩
        by_cases hk : j ≤ k
        · exact h j j1 hk z
        · obtain ⟨m, rfl⟩ := Nat.exists_eq_add_of_le (show k + 1 ≤ j by omega)
          obtain ⟨v, v1, -⟩ := wl_pre z
          rw [g] at v1
          cases v1
      · rw [if_neg g]
        have hk : ∀ j, 0 < j → j ≤ k + 1 → ¬ wl T a b false j x = some x := fun j j1 j2 => by
          by_cases q : j = k + 1
          · rw [q]; exact e
          · exact h j j1 (by omega)
        rcases clF_s T a b x f (k + 1) hk with ⟨r1, r2⟩ | ⟨r0, r1, r2, r3, r4⟩
        · exact Or.inl ⟨r1, fun j j1 j2 => r2 j j1 (by omega)⟩
        · exact Or.inr ⟨r0, by omega, by omega, r3, r4⟩
/-- the point behind so many steps -/
noncomputable abbrev rk (T : sT) (a b x k : Nat) : Nat := (wl T a b false k x).getD 0
theorem cyL_0 {x : Nat} : cyL T a b x = 0 → ∀ j, 0 < j → j ≤ 15 → ¬ wl T a b false j x = some x := fun h => by
  rcases clF_s T a b x 15 0 (fun j j1 j2 => by omega) with ⟨r1, r2⟩ | ⟨r0, -⟩
  · exact fun j j1 j2 => r2 j j1 (by omega)
  · have h : clF T a b x 15 0 = 0 := h
    omega
theorem cyL_s {x : Nat} (hT : sOk V T) (h : 0 < cyL T a b x) : cyL T a b x ≤ 15 ∧ wl T a b false (cyL T a b x) x = some x ∧ (∀ j, 0 < j → j < cyL T a b x → ¬ wl T a b false j x = some x) ∧ cyL T a b x % 2 = 0 := by
  rcases clF_s T a b x 15 0 (fun j j1 j2 => by omega) with ⟨r1, -⟩ | ⟨-, -, r2, r3, r4⟩
  · have h : 0 < clF T a b x 15 0 := h
    omega
  · refine ⟨by show clF T a b x 15 0 ≤ 15; omega, r3, r4, ?_⟩
    rcases Nat.mod_two_eq_zero_or_one (cyL T a b x) with g | g
    · exact g
    · have e : cyL T a b x = 2 * (cyL T a b x / 2) + 1 := by omega
      have r3 : wl T a b false (cyL T a b x) x = some x := r3
      rw [e] at r3
      exact absurd r3 (wl_odd hT _ _ _)
theorem cyL_pos {x n : Nat} (h1 : 0 < n) (h2 : n ≤ 15) (h : wl T a b false n x = some x) : 0 < cyL T a b x := by
  rcases Nat.eq_zero_or_pos (cyL T a b x) with e | e
  · exact absurd h (cyL_0 e n h1 h2)
  · exact e
/-- round and round -/
theorem wl_per {x n : Nat} (hn : n % 2 = 0) (h : wl T a b false n x = some x) : ∀ (m k : Nat), wl T a b false (n * m + k) x = wl T a b false k x
  | 0, k => by rw [Nat.mul_zero, Nat.zero_add]
  | m + 1, k => by
    rw [show n * (m + 1) + k = n + (n * m + k) by rw [Nat.mul_add]; omega, wl_add_s h, pr2_even hn]
    exact wl_per hn h m k
theorem wl_mod {x n : Nat} (hn : n % 2 = 0) (h : wl T a b false n x = some x) (k : Nat) : wl T a b false k x = wl T a b false (k % n) x := by
  have := wl_per hn h (k / n) (k % n)
  rw [Nat.div_add_mod] at this
  exact this
theorem wl_all {x n : Nat} (hn : n % 2 = 0) (h0 : 0 < n) (h : wl T a b false n x = some x) (k : Nat) : ∃ v, wl T a b false k x = some v := by
  rw [wl_mod hn h]
  have l := Nat.mod_lt k h0
  obtain ⟨m, e⟩ := Nat.exists_eq_add_of_le (Nat.le_of_lt l)
  rw [e] at h
  obtain ⟨v, v1, -⟩ := wl_pre h
  exact ⟨v, v1⟩
/-- points on one way: each leads to the other -/
theorem wl_sym {x y n k : Nat} (hT : sOk V T) (hn : n % 2 = 0) (h0 : 0 < n) (h : wl T a b false n x = some x) (hy : wl T a b false k x = some y) : (∃ j, wl T a b false j y = some x) ∧ wl T a b false n y = some y ∧ ∀ j v, wl T a b false j y = some v → ∃ i, wl T a b false i x = some v := by
  rcases Nat.mod_two_eq_zero_or_one k with g | g
  · have go : ∀ j, wl T a b false j y = wl T a b false (k + j) x := fun j => by rw [wl_add_s hy, pr2_even g]
    refine ⟨⟨n * k - k + 0, ?_⟩, ?_, fun j v e => ⟨k + j, by rw [← go]; exact e⟩⟩
    · have : k ≤ n * k := Nat.le_mul_of_pos_left k h0
      rw [go, show k + (n * k - k + 0) = n * k + 0 by omega, wl_per hn h]
      rfl
    · rw [go, Nat.add_comm, wl_add_s h, pr2_even hn]
      exact hy
  · have bk := wl_back hT k false x y hy
    rw [pr2_odd g, Bool.not_not, show (false : Bool) = false from rfl] at bk
    have bk : wl T a b false k y = some x := by
      have := wl_back hT k false x y hy
      rw [pr2_odd g] at this
      exact this
    -- from y, k steps back to x, then on against the way
    have h2 : wl T a b true n x = some x := by
      have := wl_back hT n false x x h
      rw [pr2_even hn] at this
      exact this
    have yn : wl T a b false n y = some y := by
      have e1 : wl T a b false (k + n) y = some x := by rw [wl_add_s bk, pr2_odd g]; exact h2
      rw [Nat.add_comm] at e1
      obtain ⟨w, w1, w2⟩ := wl_pre e1
      rw [pr2_even hn] at w2
      have := wl_inj hT w2 bk
      rw [this] at w1
      exact w1
    refine ⟨⟨k, bk⟩, yn, fun j v e => ?_⟩
    -- from x by the first k, then: each point of y's way is on x's
    have e1 : wl T a b false (n * (j + 1) - j + (j - 0)) y = wl T a b false (n * (j + 1) + 0) y := by
      have : j ≤ n * (j + 1) := Nat.le_trans (Nat.le_succ j) (Nat.le_mul_of_pos_left (j + 1) h0)
      rw [show n * (j + 1) - j + (j - 0) = n * (j + 1) + 0 by omega]
    -- back from y by j steps of its way is v's way to y; v is x's way at some place
    have bj := wl_back hT j false y v e
    have key : ∀ i w, wl T a b false i y = some w → ∃ q, wl T a b false q x = some w := fun i => by
      induction i with
      | zero => exact fun w e => ⟨k, by cases e; exact hy⟩
      | succ i ih =>
        intro w e
        obtain ⟨u, u1, u2⟩ := wl_pre e
        obtain ⟨q, hq⟩ := ih u u1
        -- u on x's way; its neighbours are there
        have hs := (wl_1 hT).mp u2
        by_cases par : pr2 false q = pr2 false i
        · exact ⟨q + 1, by rw [wl_add_s hq, par]; exact u2⟩
        · -- one back
          have hq2 : wl T a b false (n + q) x = some u := by rw [wl_add_s h, pr2_even hn]; exact hq
          rw [show n + q = (n + q - 1) + 1 by omega] at hq2
          obtain ⟨r, r1, r2⟩ := wl_pre hq2
          have e5 := (st_in hT ((wl_1 hT).mp r2)).1
          have pe : pr2 false (n + q - 1) = pr2 false i := by
            have a1 := pr2_succ (n + q - 1) false
            rw [show n + q - 1 + 1 = n + q by omega, pr2_mod] at a1
            rw [pr2_mod] at par
            have a2 : decide ((n + q) % 2 = 1) = decide (q % 2 = 1) := by rw [decide_eq_decide]; omega
            rw [a2] at a1
            cases h1 : pr2 false (n + q - 1) <;> cases h2 : pr2 false i <;> cases h3 : decide (q % 2 = 1) <;> simp_all
          rw [pe] at e5
          have : r = w := by
            have := e5.symm.trans hs
            omega
          rw [← this]
          exact ⟨n + q - 1, r1⟩
    exact key j v e
/-- the points of a way are different until it is back -/
theorem wl_dif {x : Nat} (hT : sOk V T) (h : 0 < cyL T a b x) {i j : Nat} (hi : i < j) (hj : j < cyL T a b x) : ¬ wl T a b false i x = wl T a b false j x := by
  obtain ⟨c1, c2, c3, c4⟩ := cyL_s hT h
  obtain ⟨v, hv⟩ := wl_all c4 h c2 i
  intro e
  rw [hv] at e
  rcases Nat.mod_two_eq_zero_or_one (j - i) with g | g
  · -- the same side: a return too early
    have e2 : wl T a b false ((j - i) + i) x = some v := by rw [show j - i + i = j by omega]; exact e.symm
    obtain ⟨w, w1, w2⟩ := wl_pre e2
    rw [pr2_even g] at w2
    have := wl_inj hT w2 hv
    rw [this] at w1
    exact c3 (j - i) (by omega) (by omega) w1
  · have e2 : wl T a b false (i + (j - i)) x = some v := by rw [show i + (j - i) = j by omega]; exact e.symm
    rw [wl_add_s hv] at e2
    rw [show j - i = 2 * ((j - i) / 2) + 1 by omega] at e2
    exact wl_odd hT _ _ _ e2
/-- four points at least -/
theorem cyL_4 {x : Nat} (hT : sOk V T) (hab : ¬ a = b) (h : 0 < cyL T a b x) : 4 ≤ cyL T a b x := by
  obtain ⟨c1, c2, c3, c4⟩ := cyL_s hT h
  rcases Nat.lt_or_ge (cyL T a b x) 4 with g | g
  · have e : cyL T a b x = 2 := by omega
    rw [e] at c2
    obtain ⟨v, v1, v2⟩ := wl_pre (n := 1) (m := 1) c2
    have e1 : T a x = (v : Int) := (wl_1 hT).mp v1
    have e2 : T b v = (x : Int) := (wl_1 hT).mp v2
    obtain ⟨k, ek, -, -, -, -, -, -, t1, t2, t3, t4, t5⟩ := sOk_at hT e1 (by omega)
    obtain ⟨k2, ek2, -, -, -, -, -, -, q1, q2, q3, q4, q5⟩ := sOk_at hT e2 (by omega)
    have : k = v := by omega
    subst this
    have : k2 = x := by omega
    subst this
    have := t3.symm.trans q5
    omega
  · exact g
end WK
end
/-! ##### 19.m.091.40b ##### -/
section
/-! ===== the cycles of two points (pure) ===== -/
section CY
variable {V : Nat} {T : sT} {a b : Nat}
/-- y is on the cycle of x -/
abbrev onC (T : sT) (a b x y : Nat) : Prop := ∃ k, k < cyL T a b x ∧ wl T a b false k x = some y
theorem onC_of {x y k : Nat} (hT : sOk V T) (h : 0 < cyL T a b x) (hy : wl T a b false k x = some y) : onC T a b x y := by
  obtain ⟨c1, c2, c3, c4⟩ := cyL_s hT h
  exact ⟨k % cyL T a b x, Nat.mod_lt k h, by rw [← wl_mod c4 c2]; exact hy⟩
theorem onC_x {x : Nat} (h : 0 < cyL T a b x) : onC T a b x x := ⟨0, h, rfl⟩
theorem onC_sym {x y : Nat} (hT : sOk V T) (h : 0 < cyL T a b x) (hy : onC T a b x y) : 0 < cyL T a b y ∧ onC T a b y x ∧ ∀ z, onC T a b x z ↔ onC T a b y z := by
  obtain ⟨c1, c2, c3, c4⟩ := cyL_s hT h
  obtain ⟨k, k1, k2⟩ := hy
  obtain ⟨⟨j, hj⟩, g2, g3⟩ := wl_sym hT c4 h c2 k2
  have hp : 0 < cyL T a b y := cyL_pos h c1 g2
  have yx := onC_of hT hp hj
  refine ⟨hp, yx, fun z => ⟨fun hz => ?_, fun hz => ?_⟩⟩
  · obtain ⟨d1, d2, d3, d4⟩ := cyL_s hT hp
    obtain ⟨i, i1, i2⟩ := yx
    obtain ⟨-, -, q3⟩ := wl_sym hT d4 hp d2 i2
    obtain ⟨m, m1, m2⟩ := hz
    obtain ⟨r, hr⟩ := q3 m z m2
    exact onC_of hT hp hr
  · obtain ⟨m, m1, m2⟩ := hz
    obtain ⟨r, hr⟩ := g3 m z m2
    exact onC_of hT h hr
/-- a point begins a cycle: it is its smallest -/
noncomputable def cyB (T : sT) (a b x : Nat) : Bool := decide (¬ x = a ∧ ¬ x = b ∧ ¬ T a b = (x : Int) ∧ 0 < cyL T a b x ∧ ∀ k, k < cyL T a b x → x ≤ rk T a b x k)
theorem rk_some {x k y : Nat} (h : wl T a b false k x = some y) : rk T a b x k = y := by show (wl T a b false k x).getD 0 = y; rw [h]; rfl
theorem cyB_s {x : Nat} (hT : sOk V T) : cyB T a b x = true ↔ (¬ x = a ∧ ¬ x = b ∧ ¬ T a b = (x : Int) ∧ 0 < cyL T a b x ∧ ∀ y, onC T a b x y → x ≤ y) := by
  unfold cyB
  rw [decide_eq_true_iff]
  constructor
  · rintro ⟨h1, h2, h3, h4, h5⟩
    refine ⟨h1, h2, h3, h4, fun y hy => ?_⟩
    obtain ⟨k, k1, k2⟩ := hy
    have := h5 k k1
    rw [rk_some k2] at this
    exact this
  · rintro ⟨h1, h2, h3, h4, h5⟩
    refine ⟨h1, h2, h3, h4, fun k hk => ?_⟩
    obtain ⟨c1, c2, c3, c4⟩ := cyL_s hT h4
    obtain ⟨v, hv⟩ := wl_all c4 h4 c2 k
    rw [rk_some hv]
    exact h5 v ⟨k, hk, hv⟩
/-- on two cycles: they are one -/
theorem cyB_one {x y u : Nat} (hT : sOk V T) (hx : cyB T a b x = true) (hy : cyB T a b y = true) (h1 : onC T a b x u) (h2 : onC T a b y u) : x = y := by
  obtain ⟨-, -, -, px, mx⟩ := (cyB_s hT).mp hx
  obtain ⟨-, -, -, py, my⟩ := (cyB_s hT).mp hy
  obtain ⟨pu, ux, ex⟩ := onC_sym hT px h1
  obtain ⟨-, uy, ey⟩ := onC_sym hT py h2
  have a1 := mx y ((ex y).mpr uy)
  have a2 := my x ((ey x).mpr ux)
  omega
/-- what has been seen below x -/
abbrev seenC (T : sT) (a b x u : Nat) : Prop := u = a ∨ u = b ∨ T a b = (u : Int) ∨ ∃ y, y < x ∧ cyB T a b y = true ∧ onC T a b y u
theorem seen_no {x : Nat} (hT : sOk V T) (h : seenC T a b x x) : ¬ cyB T a b x = true := fun z => by
  obtain ⟨z1, z2, z3, z4, z5⟩ := (cyB_s hT).mp z
  rcases h with h | h | h | ⟨y, y1, y2, y3⟩
  · exact z1 h
  · exact z2 h
  · exact z3 h
  · have := cyB_one hT z y2 (onC_x z4) y3
    omega
theorem seen_yes {x : Nat} (hT : sOk V T) (h : ¬ seenC T a b x x) (hp : 0 < cyL T a b x) : cyB T a b x = true := by
  have ho : ¬ x = a ∧ ¬ x = b ∧ ¬ T a b = (x : Int) := ⟨fun z => h (Or.inl z), fun z => h (Or.inr (Or.inl z)), fun z => h (Or.inr (Or.inr (Or.inl z)))⟩
  refine (cyB_s hT).mpr ⟨ho.1, ho.2.1, ho.2.2, hp, ?_⟩
  have key : ∀ n z, z < n → onC T a b x z → x ≤ z := by
    intro n
    induction n with
    | zero => exact fun z hz => absurd hz (Nat.not_lt_zero z)
    | succ n ih =>
      intro z hz hc
      rcases Nat.lt_or_ge z x with g | g
      · exfalso
        obtain ⟨pz, zx, ez⟩ := onC_sym hT hp hc
        obtain ⟨k, k1, k2⟩ := hc
        have oz := wl_offs hT k false x z ho k2
        by_cases hb : cyB T a b z = true
        · exact h (Or.inr (Or.inr (Or.inr ⟨z, g, hb, zx⟩)))
        · apply hb
          refine (cyB_s hT).mpr ⟨oz.1, oz.2.1, oz.2.2, pz, fun y hy => ?_⟩
          have yx := (ez y).mpr hy
          rcases Nat.lt_or_ge y z with g2 | g2
          · have := ih y (by omega) yx
            omega
          · exact g2
      · exact g
  exact fun y hy => key (y + 1) y (Nat.lt_succ_self y) hy
theorem seen_succ {x u : Nat} : seenC T a b (x + 1) u ↔ (seenC T a b x u ∨ (cyB T a b x = true ∧ onC T a b x u)) := by
  constructor
  · rintro (h | h | h | ⟨y, y1, y2, y3⟩)
    · exact Or.inl (Or.inl h)
    · exact Or.inl (Or.inr (Or.inl h))
    · exact Or.inl (Or.inr (Or.inr (Or.inl h)))
    · by_cases e : y = x
      · subst e; exact Or.inr ⟨y2, y3⟩
      · exact Or.inl (Or.inr (Or.inr (Or.inr ⟨y, by omega, y2, y3⟩)))
  · rintro ((h | h | h | ⟨y, y1, y2, y3⟩) | ⟨h1, h2⟩)
    · exact Or.inl h
    · exact Or.inr (Or.inl h)
    · exact Or.inr (Or.inr (Or.inl h))
    · exact Or.inr (Or.inr (Or.inr ⟨y, by omega, y2, y3⟩))
    · exact Or.inr (Or.inr (Or.inr ⟨x, Nat.lt_succ_self x, h1, h2⟩))
/-! how many -/
noncomputable abbrev cyS (T : sT) (a b n : Nat) : List Nat := fL (cyB T a b) n
noncomputable def offs (T : sT) (a b : Nat) (L : List Nat) (q : Nat) : Nat := sm (fun i => cyL T a b (L.getD i 0)) q
theorem cyS_get {n q : Nat} (h : q < (cyS T a b n).length) : cyB T a b ((cyS T a b n).getD q 0) = true ∧ (cyS T a b n).getD q 0 < n := by
  obtain ⟨g1, g2, -⟩ := fL_get (B := cyB T a b) n q h
  exact ⟨g1, g2⟩
theorem cyS_inj {n q r : Nat} (hq : q < (cyS T a b n).length) (hr : r < (cyS T a b n).length) (e : (cyS T a b n).getD q 0 = (cyS T a b n).getD r 0) : q = r := by
  obtain ⟨-, -, g1⟩ := fL_get (B := cyB T a b) n q hq
  obtain ⟨-, -, g2⟩ := fL_get (B := cyB T a b) n r hr
  exact g1.symm.trans ((congrArg (fun z => (fL (cyB T a b) z).length) e).trans g2)
/-- the points of a cycle counted -/
theorem onC_sm {x : Nat} (hT : sOk V T) (hx : x < V) (hp : 0 < cyL T a b x) : sm (fun u => sm (fun k => iv (wl T a b false k x = some u)) (cyL T a b x)) 15 = cyL T a b x := by
  have hV := hT.2.1
  obtain ⟨c1, c2, c3, c4⟩ := cyL_s hT hp
  rw [sm_swap]
  have e : sm (fun k => sm (fun u => iv (wl T a b false k x = some u)) 15) (cyL T a b x) = sm (fun _ => 1) (cyL T a b x) := sm_ext _ (fun k hk => by
    obtain ⟨v, hv⟩ := wl_all c4 hp c2 k
    have lv := wl_lt hT hx hv
    exact sm_one (k := v) (by omega) (iv_t hv) (fun u _ hu => iv_f (fun z => hu (Option.some.inj (z.symm.trans hv)))))
  rw [e, sm_const, Nat.mul_one]
theorem iv_onC {x u : Nat} (hT : sOk V T) (hp : 0 < cyL T a b x) : sm (fun k => iv (wl T a b false k x = some u)) (cyL T a b x) ≤ 1 ∧ (0 < sm (fun k => iv (wl T a b false k x = some u)) (cyL T a b x) → onC T a b x u) := by
  by_cases h : onC T a b x u
  · obtain ⟨k, k1, k2⟩ := id h
    have e : sm (fun k => iv (wl T a b false k x = some u)) (cyL T a b x) = 1 := sm_one k1 (iv_t k2) (fun i hi hne => iv_f (fun z => by
      rcases Nat.lt_or_gt_of_ne hne with g | g
      · exact wl_dif hT hp g k1 (z.trans k2.symm)
      · exact wl_dif hT hp g hi (k2.trans z.symm)))
    exact ⟨by omega, fun _ => h⟩
  · have e : sm (fun k => iv (wl T a b false k x = some u)) (cyL T a b x) = 0 := sm_none (fun k hk => iv_f (fun z => h ⟨k, hk, z⟩))
    exact ⟨by omega, fun z => by omega⟩
/-- a, b and the points of the cycles: 15 at most -/
theorem cy_15 {n : Nat} (hT : sOk V T) (ha : a < V) (hb : b < V) (hab : ¬ a = b) (hn : n ≤ V) : 2 + offs T a b (cyS T a b n) (cyS T a b n).length ≤ 15 ∧ 4 * (cyS T a b n).length ≤ offs T a b (cyS T a b n) (cyS T a b n).length ∧ ∀ q, q ≤ (cyS T a b n).length → offs T a b (cyS T a b n) q ≤ offs T a b (cyS T a b n) (cyS T a b n).length := by
  have hV := hT.2.1
  have pos : ∀ q, q < (cyS T a b n).length → 0 < cyL T a b ((cyS T a b n).getD q 0) ∧ (cyS T a b n).getD q 0 < V := fun q hq => by
    obtain ⟨g1, g2⟩ := cyS_get hq
    exact ⟨((cyB_s hT).mp g1).2.2.2.1, by omega⟩
  refine ⟨?_, ?_, ?_⟩
  · have e1 : offs T a b (cyS T a b n) (cyS T a b n).length = sm (fun i => sm (fun u => sm (fun k => iv (wl T a b false k ((cyS T a b n).getD i 0) = some u)) (cyL T a b ((cyS T a b n).getD i 0))) 15) (cyS T a b n).length := by
      unfold offs
      exact sm_ext _ (fun i hi => (onC_sm hT (pos i hi).2 (pos i hi).1).symm)
    rw [sm_swap] at e1
    have e2 : sm (fun u => iv (u = a) + iv (u = b) + sm (fun i => sm (fun k => iv (wl T a b false k ((cyS T a b n).getD i 0) = some u)) (cyL T a b ((cyS T a b n).getD i 0))) (cyS T a b n).length) 15 ≤ sm (fun _ => 1) 15 := sm_le 15 (fun u _ => by
      by_cases h : ∃ i, i < (cyS T a b n).length ∧ onC T a b ((cyS T a b n).getD i 0) u
      · obtain ⟨i, i1, i2⟩ := h
        obtain ⟨g1, g2⟩ := cyS_get i1
        obtain ⟨o1, o2, o3, o4, o5⟩ := (cyB_s hT).mp g1
        obtain ⟨k, k1, k2⟩ := id i2
        have off := wl_offs hT k false _ u ⟨o1, o2, o3⟩ k2
        rw [iv_f off.1, iv_f off.2.1]
        have : sm (fun i => sm (fun k => iv (wl T a b false k ((cyS T a b n).getD i 0) = some u)) (cyL T a b ((cyS T a b n).getD i 0))) (cyS T a b n).length = sm (fun k => iv (wl T a b false k ((cyS T a b n).getD i 0) = some u)) (cyL T a b ((cyS T a b n).getD i 0)) := sm_one i1 rfl (fun j hj hne => by
          have g := iv_onC (u := u) hT (pos j hj).1
          rcases Nat.eq_zero_or_pos (sm (fun k => iv (wl T a b false k ((cyS T a b n).getD j 0) = some u)) (cyL T a b ((cyS T a b n).getD j 0))) with z | z
          · exact z
          · exfalso
            exact hne (cyS_inj hj i1 (cyB_one hT (cyS_get hj).1 g1 (g.2 z) i2)))
        rw [this]
        have g := (iv_onC (u := u) hT (pos i i1).1).1
        omega
      · have : sm (fun i => sm (fun k => iv (wl T a b false k ((cyS T a b n).getD i 0) = some u)) (cyL T a b ((cyS T a b n).getD i 0))) (cyS T a b n).length = 0 := sm_none (fun j hj => by
          have g := iv_onC (u := u) hT (pos j hj).1
          rcases Nat.eq_zero_or_pos (sm (fun k => iv (wl T a b false k ((cyS T a b n).getD j 0) = some u)) (cyL T a b ((cyS T a b n).getD j 0))) with z | z
          · exact z
          · exact absurd ⟨j, hj, g.2 z⟩ h)
        rw [this]
        by_cases g1 : u = a
        · rw [iv_t g1, iv_f (by omega)]; omega
        · rw [iv_f g1]
          have := iv_le (p := u = b)
          omega)
    rw [sm_add, sm_add, sm_eq1 (by omega), sm_eq1 (by omega), ← e1, sm_const] at e2
    omega
  · have := sm_le (f := fun _ => 4) (g := fun i => cyL T a b ((cyS T a b n).getD i 0)) (cyS T a b n).length (fun i hi => cyL_4 hT hab (pos i hi).1)
    rw [sm_const] at this
    show 4 * _ ≤ sm _ _
    omega
  · intro q hq
    obtain ⟨m, e⟩ := Nat.exists_eq_add_of_le hq
    unfold offs
    rw [e, sm_split]
    exact Nat.le_add_right _ _
end CY
end
/-! ##### 19.m.092.40c ##### -/
section
/-! ===== the class walks along cycles ===== -/
noncomputable def y53 : List bY := [.inl (2147483648, 2147483693), .inl (2147483648, 2147483648), .inl (2147483648, 2147483663), .inl (2147483648, 2147483678), .inl (2147483648, 2147483693)]
theorem T53 : bTT 53 = some (32, 4, y53) := rfl
theorem d53 {n : Nat} (h : n < 4) : ∃ hi, bDy (32, 4, y53) n = some (.inl (2147483648, hi)) ∧ (1 ≤ n → 2147483663 ≤ hi) := by
  have : n = 0 ∨ n = 1 ∨ n = 2 ∨ n = 3 := by omega
  rcases this with rfl | rfl | rfl | rfl
  · exact ⟨_, rfl, fun z => by omega⟩
  · exact ⟨_, rfl, fun _ => by decide⟩
  · exact ⟨_, rfl, fun _ => by decide⟩
  · exact ⟨_, rfl, fun _ => by decide⟩
theorem xiald53 {M : amM} {pc a b d : Nat} {L : List (Option Value)} {st : List Value} {hp : amH} {Q : xQ} (q n : Nat) {x : Int32} (hH : bHk 84 bTT hp) (h : xI M pc .iaload a b) (e : q = pc + 1) (hn : x.toInt = (n : Int)) (hl : n < 4) (hw : ∀ z : Int32, z.toInt = rN hp 53 n → xV d M q L (.int z :: st) hp Q) : xV d M pc L (.int x :: .ref 53 :: st) hp Q := by
  obtain ⟨⟨t1, vs⟩, g1, g2, g3, g4⟩ := bHk_at hH (i := 53) (by decide) T53
  have g2 : t1 = 32 := g2
  subst g2
  have g3 : vs.length = 4 := g3
  have hl2 : n < vs.length := by omega
  obtain ⟨y, k1, k2⟩ := g4 n vs[n] (List.getElem?_eq_getElem hl2)
  obtain ⟨hi, e3, -⟩ := d53 hl
  rw [e3] at k1
  cases k1
  obtain ⟨w, ex, -, -⟩ := k2
  obtain ⟨e1, e2⟩ := rw_in (m := vs.length) hn hl2
  refine xstep h (fun cl hl => ⟨cl, ?_, hl⟩) (hw w ?_)
  · subst e
    simp [amDo, amStep, amSc, amALd, g1, e1, e2, amIsI, List.getElem?_eq_getElem hl2, ex]
  · unfold rN bFld
    rw [g1]
    dsimp only
    rw [List.getElem?_eq_getElem hl2, ex]
theorem xiast53 {M : amM} {pc a b d : Nat} {L : List (Option Value)} {st : List Value} {hp : amH} {Q : xQ} (q n : Nat) {x v : Int32} (hH : bHk 84 bTT hp) (h : xI M pc .iastore a b) (e : q = pc + 1) (hn : x.toInt = (n : Int)) (hl : n < 4) (h0 : 1 ≤ n) (h1 : 0 ≤ v.toInt) (h2 : v.toInt ≤ 15)
    (hw : ∀ hp1, bHk 84 bTT hp1 → rU hp hp1 53 n v.toInt → xV d M q L st hp1 Q) : xV d M pc L (.int v :: .int x :: .ref 53 :: st) hp Q := by
  obtain ⟨hi, e3, e4⟩ := d53 hl
  have e4 := e4 h0
  have ho := aOff_eq v
  obtain ⟨vs, g1, g2, g3, k1, k2⟩ := v_set hH (v := .int v) (c := 53) (by decide) T53 e3 hl ⟨v, rfl, by omega, by omega⟩
  refine xstep h (fun cl hl => ⟨cl, ?_, hl⟩) (hw _ k1 ⟨by unfold rN; rw [k2.1], k2.2⟩)
  obtain ⟨e1, e2⟩ := rw_in (m := vs.length) hn (by omega)
  subst e
  simp only [amDo, amStep, amASt, g1, e1, e2, amIsI, and_self, if_true, Option.map_some, id]
theorem u36 : bUp 0 am_m36.1 = true := by decide +kernel
theorem u37 : bUp 0 am_m37.1 = true := by decide +kernel
theorem u38 : bUp 0 am_m38.1 = true := by decide +kernel
theorem u39 : bUp 0 am_m39.1 = true := by decide +kernel
theorem u40 : bUp 0 am_m40.1 = true := by decide +kernel
theorem u41 : bUp 0 am_m41.1 = true := by decide +kernel
theorem b52 {hp : amH} (hH : bHk 84 bTT hp) : 0 ≤ rN hp 52 0 ∧ rN hp 52 0 ≤ 3 := by
  have := rb_c hH (c := 52) (by decide) (show bTT 52 = some (1, 6, [.inl (2147483648, 2147483651), .inl (0, 4294967295), .inl (0, 4294967295), .inr (.inr [53]), .inr (.inr [54]), .inr (.inr [55])]) from rfl) (f := 0) rfl (by decide)
  omega
theorem k_bgn {d n : Nat} {hp : amH} {R : xQ} {a : Int32} (hH : bHk 84 bTT hp) (ha : a.toInt = (n : Int)) (hn : n < 4) (hR : ∀ r : Int32, r.toInt = rN hp 53 n → R (.inl (some (.int r))) hp) : xK d 39 [.ref 52, .int a] hp R := by
  refine xin (M := am_m39) rfl rfl rfl ?_
  refine xild 1 ⟨u39, _, rfl⟩ rfl rfl ?_
  refine xif_lt 4 ⟨u39, _, rfl⟩ rfl (fun c1 => ?_) (fun c1 => ?_)
  · omega
  · refine xild 5 ⟨u39, _, rfl⟩ rfl rfl ?_
    refine xald 6 ⟨u39, _, rfl⟩ rfl rfl ?_
    refine xgetD 9 (53) hH ⟨u39, _, rfl⟩ rfl (by decide) (by decide) rfl rfl (by decide) ?_
    refine xlen 10 hH ⟨u39, _, rfl⟩ rfl (by decide) rfl (by decide) (by decide) (fun z9 h9 => ?_)
    refine xcmp_ge 13 ⟨u39, _, rfl⟩ rfl (fun c10 => ?_) (fun c10 => ?_)
    · omega
    · refine xald 14 ⟨u39, _, rfl⟩ rfl rfl ?_
      refine xgetD 17 (53) hH ⟨u39, _, rfl⟩ rfl (by decide) (by decide) rfl rfl (by decide) ?_
      refine xild 18 ⟨u39, _, rfl⟩ rfl rfl ?_
      refine xiald53 19 (a).toInt.toNat hH ⟨u39, _, rfl⟩ rfl (by omega) (by omega) (fun z18 h18 => ?_)
      refine xgoto ⟨u39, _, rfl⟩ ?_
      exact xret ⟨u39, _, rfl⟩ rfl (hR _ (by rw [h18, show a.toInt.toNat = n by omega]))
theorem k_lngC {d n : Nat} {hp : amH} {R : xQ} {a : Int32} (hH : bHk 84 bTT hp) (ha : a.toInt = (n : Int)) (hn : (n : Int) < rN hp 52 0) (h0 : 0 ≤ rN hp 53 n) (h1 : rN hp 53 n ≤ rN hp 53 (n + 1)) (h2 : rN hp 53 (n + 1) ≤ 15) (hR : ∀ r : Int32, r.toInt = rN hp 53 (n + 1) - rN hp 53 n → R (.inl (some (.int r))) hp) : xK (d + 1) 40 [.ref 52, .int a] hp R := by
  have b := b52 hH
  refine xin (M := am_m40) rfl rfl rfl ?_
  refine xild 1 ⟨u40, _, rfl⟩ rfl rfl ?_
  refine xif_lt 4 ⟨u40, _, rfl⟩ rfl (fun c1 => ?_) (fun c1 => ?_)
  · omega
  · refine xild 5 ⟨u40, _, rfl⟩ rfl rfl ?_
    refine xald 6 ⟨u40, _, rfl⟩ rfl rfl ?_
    refine xgetC 9 hH ⟨u40, _, rfl⟩ rfl (by decide) (by decide) rfl rfl (by decide) (fun z6 h6 => ?_)
    refine xcmp_ge 12 ⟨u40, _, rfl⟩ rfl (fun c9 => ?_) (fun c9 => ?_)
    · omega
    · refine xald 13 ⟨u40, _, rfl⟩ rfl rfl ?_
      refine xild 14 ⟨u40, _, rfl⟩ rfl rfl ?_
      refine xcst 15 (1) ⟨u40, _, rfl⟩ rfl (by decide) (fun z14 h14 => ?_)
      refine xadd 16 _ ⟨u40, _, rfl⟩ rfl rfl (by omega) (by omega) (fun z15 h15 => ?_)
      refine xcallC 19 (o := 52) [.int _] [] hH ⟨u40, _, rfl⟩ rfl rfl (by decide) rfl (by decide) rfl ⟨rfl, rfl, rfl, rfl⟩ rfl (k_bgn hH (n := n + 1) (by omega) (by omega) (fun z16 h16 => ⟨_, rfl, ?_⟩))
      refine xald 20 ⟨u40, _, rfl⟩ rfl rfl ?_
      refine xild 21 ⟨u40, _, rfl⟩ rfl rfl ?_
      refine xcallC 24 (o := 52) [.int _] [.int _] hH ⟨u40, _, rfl⟩ rfl rfl (by decide) rfl (by decide) rfl ⟨rfl, rfl, rfl, rfl⟩ rfl (k_bgn hH ha (by omega) (fun z21 h21 => ⟨_, rfl, ?_⟩))
      refine xsub 25 _ ⟨u40, _, rfl⟩ rfl rfl (by omega) (by omega) (fun z24 h24 => ?_)
      refine xgoto ⟨u40, _, rfl⟩ ?_
      exact xret ⟨u40, _, rfl⟩ rfl (hR _ (by omega))
theorem k_ptC {d n k : Nat} {hp : amH} {R : xQ} {a b : Int32} (hH : bHk 84 bTT hp) (ha : a.toInt = (n : Int)) (hn : n < 4) (hb : b.toInt = (k : Int)) (h0 : 0 ≤ rN hp 53 n) (h1 : rN hp 53 n + k < 30) (hR : ∀ r : Int32, r.toInt = rN hp 54 ((rN hp 53 n).toNat + k) → R (.inl (some (.int r))) hp) : xK (d + 1) 41 [.ref 52, .int a, .int b] hp R := by
  refine xin (M := am_m41) rfl rfl rfl ?_
  refine xald 1 ⟨u41, _, rfl⟩ rfl rfl ?_
  refine xild 2 ⟨u41, _, rfl⟩ rfl rfl ?_
  refine xcallC 5 (o := 52) [.int _] [] hH ⟨u41, _, rfl⟩ rfl rfl (by decide) rfl (by decide) rfl ⟨rfl, rfl, rfl, rfl⟩ rfl (k_bgn hH ha hn (fun z2 h2 => ⟨_, rfl, ?_⟩))
  refine xild 6 ⟨u41, _, rfl⟩ rfl rfl ?_
  refine xadd 7 _ ⟨u41, _, rfl⟩ rfl rfl (by omega) (by omega) (fun z6 h6 => ?_)
  refine xist 8 ⟨u41, _, rfl⟩ rfl rfl ?_
  refine xild 9 ⟨u41, _, rfl⟩ rfl rfl ?_
  refine xif_lt 12 ⟨u41, _, rfl⟩ rfl (fun c9 => ?_) (fun c9 => ?_)
  · omega
  · refine xild 13 ⟨u41, _, rfl⟩ rfl rfl ?_
    refine xald 14 ⟨u41, _, rfl⟩ rfl rfl ?_
    refine xgetD 17 (54) hH ⟨u41, _, rfl⟩ rfl (by decide) (by decide) rfl rfl (by decide) ?_
    refine xlen 18 hH ⟨u41, _, rfl⟩ rfl (by decide) rfl (by decide) (by decide) (fun z17 h17 => ?_)
    refine xcmp_ge 21 ⟨u41, _, rfl⟩ rfl (fun c18 => ?_) (fun c18 => ?_)
    · omega
    · refine xald 22 ⟨u41, _, rfl⟩ rfl rfl ?_
      refine xgetD 25 (54) hH ⟨u41, _, rfl⟩ rfl (by decide) (by decide) rfl rfl (by decide) ?_
      refine xild 26 ⟨u41, _, rfl⟩ rfl rfl ?_
      refine xiald 27 (z6).toInt.toNat hH ⟨u41, _, rfl⟩ rfl (by decide) rfl (by omega) (by omega) (fun z26 h26 => ?_)
      refine xgoto ⟨u41, _, rfl⟩ ?_
      exact xret ⟨u41, _, rfl⟩ rfl (hR _ (by rw [h26, show z6.toInt.toNat = (rN hp 53 n).toNat + k by omega]))
theorem k_nb0 {d : Nat} {hp : amH} {R : xQ} {V x y : Nat} {T : sT} {a b : Int32} (hH : bHk 84 bTT hp) (hB : bdOk hp 3 V T) (ha : a.toInt = (x : Int)) (hb : b.toInt = (y : Int)) (hx : x < V) (hy : y < V) (h : T x y = -1) (hR : ∀ r : Int32, R (.inl (some (.int r))) hp) : xK (d + 1) 10 [.ref 3, .int a, .int b] hp R := by
  have e0 := hB.1
  have hV := hB.2.1.2.1
  refine xin (M := am_m10) rfl rfl rfl ?_
  refine xald 1 ⟨u10, _, rfl⟩ rfl rfl ?_
  refine xild 2 ⟨u10, _, rfl⟩ rfl rfl ?_
  refine xcallC 5 (o := 3) [.int _] [] hH ⟨u10, _, rfl⟩ rfl rfl (by decide) rfl (by decide) rfl ⟨rfl, rfl, rfl, rfl⟩ rfl (k_isp (o := 3) (Or.inl rfl) hH (fun z2 h2 => ⟨_, rfl, ?_⟩))
  refine xif_eq 8 ⟨u10, _, rfl⟩ rfl (fun c5 => ?_) (fun c5 => ?_)
  · omega
  · refine xald 9 ⟨u10, _, rfl⟩ rfl rfl ?_
    refine xild 10 ⟨u10, _, rfl⟩ rfl rfl ?_
    refine xcallC 13 (o := 3) [.int _] [] hH ⟨u10, _, rfl⟩ rfl rfl (by decide) rfl (by decide) rfl ⟨rfl, rfl, rfl, rfl⟩ rfl (k_isp (o := 3) (Or.inl rfl) hH (fun z10 h10 => ⟨_, rfl, ?_⟩))
    refine xif_eq 16 ⟨u10, _, rfl⟩ rfl (fun c13 => ?_) (fun c13 => ?_)
    · omega
    · refine xald 17 ⟨u10, _, rfl⟩ rfl rfl ?_
      refine xild 18 ⟨u10, _, rfl⟩ rfl rfl ?_
      refine xild 19 ⟨u10, _, rfl⟩ rfl rfl ?_
      refine xcallC 22 (o := 3) [.int _, .int _] [] hH ⟨u10, _, rfl⟩ rfl rfl (by decide) rfl (by decide) rfl ⟨rfl, rfl, rfl, rfl⟩ rfl (k_thd (o := 3) (Or.inl rfl) hH hB (fun z19 h19 => ⟨_, rfl, ?_⟩))
      rw [if_pos (by omega), show a.toInt.toNat = x by omega, show b.toInt.toNat = y by omega] at h19
      refine xcst 23 (-1) ⟨u10, _, rfl⟩ rfl (by decide) (fun z22 h22 => ?_)
      refine xcmp_eq 26 ⟨u10, _, rfl⟩ rfl (fun c23 => ?_) (fun c23 => ?_)
      · refine xcst 31 (0) ⟨u10, _, rfl⟩ rfl (by decide) (fun z30 h30 => ?_)
        refine xist 32 ⟨u10, _, rfl⟩ rfl rfl ?_
        refine xild 33 ⟨u10, _, rfl⟩ rfl rfl ?_
        refine xif_eq 36 ⟨u10, _, rfl⟩ rfl (fun c33 => ?_) (fun c33 => ?_)
        · refine xcst 51 (-1) ⟨u10, _, rfl⟩ rfl (by decide) (fun z50 h50 => ?_)
          exact xret ⟨u10, _, rfl⟩ rfl (hR _)
        · omega
      · omega
/-- the class's walk -/
theorem l37 {d V x a b B : Nat} {T : sT} {hp0 : amH} {R : xQ} {wx wB : Int32} (hT : sOk V T) (hB0 : bdOk hp0 3 V T) (hL0 : lsN hp0 3 T 225) (ha : rN hp0 52 1 = (a : Int)) (hb : rN hp0 52 2 = (b : Int)) (aV : a < V) (bV : b < V) (hab : ¬ a = b) (hx : wx.toInt = (x : Int)) (xV' : x < V) (hwB : wB.toInt = (B : Int)) (hB13 : B ≤ 13)
    (hR : ∀ (z : Int32) hp1, bHk 84 bTT hp1 → bFx [54, 55] hp0 hp1 → (∀ i, i < B → rN hp1 54 i = rN hp0 54 i ∧ rJ hp1 55 i = rJ hp0 55 i) → z.toInt = ((cyL T a b x : Nat) : Int) → (0 < cyL T a b x → ∀ k, k < cyL T a b x → rN hp1 54 (B + k) = ((rk T a b x k : Nat) : Int) ∧ rJ hp1 55 (B + k) = ((2 ^ li T (abS a b (pr2 false k)) (rk T a b x k) : Nat) : Int)) → R (.inl (some (.int z))) hp1) :
    ∀ (jj k at_ : Nat) (wat wk : Int32) (v6 : Option Value) (hp : amH), wat.toInt = (at_ : Int) → wk.toInt = (k : Int) → k + jj = 15 → wl T a b false k x = some at_ → clF T a b x jj k = cyL T a b x → (∀ j, 0 < j → j ≤ k → ¬ wl T a b false j x = some x) → bHk 84 bTT hp → bFx [54, 55] hp0 hp → (∀ i, i < B → rN hp 54 i = rN hp0 54 i ∧ rJ hp 55 i = rJ hp0 55 i) → (∀ j, j < k → rN hp 54 (B + j) = ((rk T a b x j : Nat) : Int) ∧ rJ hp 55 (B + j) = ((2 ^ li T (abS a b (pr2 false j)) (rk T a b x j) : Nat) : Int)) → xV (d + 2) am_m37 15 [some (.ref 52), some (.ref 3), some (.int wx), some (.int wB), some (.int wat), some (.int wk), v6] [] hp R := by
  have hV := hT.2.1
  have l35 := trL_35 hT 225
  intro jj
  induction jj with
  | zero =>
    intro k at_ wat wk v6 hp hat hk hj hwl hcl hno hH hF hlo hro
    have h0 : cyL T a b x = 0 := hcl.symm
    refine xild2 17 ⟨u37, _, rfl⟩ rfl rfl ?_
    refine xbip 19 (15) ⟨u37, _, rfl⟩ rfl (by decide) (fun z17 h17 => ?_)
    refine xcmp_ge 22 ⟨u37, _, rfl⟩ rfl (fun c19 => ?_) (fun c19 => ?_)
    · refine xcst 129 (0) ⟨u37, _, rfl⟩ rfl (by decide) (fun z128 h128 => ?_)
      exact xret ⟨u37, _, rfl⟩ rfl (hR _ hp hH hF hlo (by rw [h0]; exact h128) (fun z => by omega))
    · omega
  | succ jj ih =>
    intro k at_ wat wk v6 hp hat hk hj hwl hcl hno hH hF hlo hro
    have e1 : rN hp 52 1 = (a : Int) := (bFx_n hF (by simp)).trans ha
    have e2 : rN hp 52 2 = (b : Int) := (bFx_n hF (by simp)).trans hb
    have hB : bdOk hp 3 V T := bdOk_fr hB0 (bFx_n hF (by simp)) (fun _ => bFx_n hF (by simp)) (fun _ => bFx_n hF (by simp))
    have hL : lsN hp 3 T 225 := lsN_fr hL0 (bFx_n hF (by simp)) (fun _ => bFx_n hF (by simp)) (fun _ => bFx_n hF (by simp))
    have atV := wl_lt hT xV' hwl
    have nxt := wl_next hwl
    have par := pr2_mod k
    have hs : ∃ s : Nat, abS a b (pr2 false k) = s ∧ s < V ∧ ((k % 2 = 0 ∧ s = a) ∨ (k % 2 = 1 ∧ s = b)) := by
      rcases Nat.mod_two_eq_zero_or_one k with g | g
      · exact ⟨a, by rw [par, decide_eq_false (by omega)]; rfl, aV, Or.inl ⟨g, rfl⟩⟩
      · exact ⟨b, by rw [par, decide_eq_true g]; rfl, bV, Or.inr ⟨g, rfl⟩⟩
    obtain ⟨s, es, sV, hs⟩ := hs
    rw [es] at nxt
    have hrk : rk T a b x k = at_ := rk_some hwl
    have cle : clF T a b x (jj + 1) k = if wl T a b false (k + 1) x = some x then k + 1 else if wl T a b false (k + 1) x = none then 0 else clF T a b x jj (k + 1) := rfl
    have go : ∀ z52 : Int32, z52.toInt = (s : Int) → xV (d + 2) am_m37 52 [some (.ref 52), some (.ref 3), some (.int wx), some (.int wB), some (.int wat), some (.int wk), v6] [.int z52] hp R := by
      intro z52 h52
      have rest : ∀ (hp83 : amH) (z79 : Int32), bHk 84 bTT hp83 → bFx [54, 55] hp hp83 → (∀ i, i < B + k → rN hp83 54 i = rN hp 54 i ∧ rJ hp83 55 i = rJ hp 55 i) → rN hp83 54 (B + k) = (at_ : Int) → (¬ T s at_ = -1 → rJ hp83 55 (B + k) = ((2 ^ li T s at_ : Nat) : Int)) → xV (d + 2) am_m37 84 [some (.ref 52), some (.ref 3), some (.int wx), some (.int wB), some (.int wat), some (.int wk), some (.int z52)] [] hp83 R := by
        intro hp83 z79 hH83 F83 lo83 at83 st83
        have e83 : rN hp83 52 2 = (b : Int) := (bFx_n F83 (by simp)).trans e2
        have B83 : bdOk hp83 3 V T := bdOk_fr hB (bFx_n F83 (by simp)) (fun _ => bFx_n F83 (by simp)) (fun _ => bFx_n F83 (by simp))
        have lo0 : ∀ i, i < B → rN hp83 54 i = rN hp0 54 i ∧ rJ hp83 55 i = rJ hp0 55 i := fun i hi => ⟨(lo83 i (by omega)).1.trans (hlo i hi).1, (lo83 i (by omega)).2.trans (hlo i hi).2⟩
        have ro83 : ¬ T s at_ = -1 → ∀ j, j < k + 1 → rN hp83 54 (B + j) = ((rk T a b x j : Nat) : Int) ∧ rJ hp83 55 (B + j) = ((2 ^ li T (abS a b (pr2 false j)) (rk T a b x j) : Nat) : Int) := fun hne j hj2 => by
          by_cases g : j = k
          · rw [g, hrk, es]
            exact ⟨at83, st83 hne⟩
          · rw [(lo83 (B + j) (by omega)).1, (lo83 (B + j) (by omega)).2]
            exact hro j (by omega)
        refine xald 85 ⟨u37, _, rfl⟩ rfl rfl ?_
        refine xild2 87 ⟨u37, _, rfl⟩ rfl rfl ?_
        refine xild2 89 ⟨u37, _, rfl⟩ rfl rfl ?_
        refine xcallC 92 (o := 3) [.int _, .int _] [] hH83 ⟨u37, _, rfl⟩ rfl rfl (by decide) rfl (by decide) rfl ⟨rfl, rfl, rfl, rfl⟩ rfl (k_thd (o := 3) (Or.inl rfl) hH83 B83 (fun z89 h89 => ⟨_, rfl, ?_⟩))
        rw [if_pos (by omega), show z52.toInt.toNat = s by omega, show wat.toInt.toNat = at_ by omega] at h89
        refine xist2 94 ⟨u37, _, rfl⟩ rfl rfl ?_
        refine xild2 96 ⟨u37, _, rfl⟩ rfl rfl ?_
        refine xcst 97 (-1) ⟨u37, _, rfl⟩ rfl (by decide) (fun z96 h96 => ?_)
        refine xcmp_ne 100 ⟨u37, _, rfl⟩ rfl (fun c97 => ?_) (fun c97 => ?_)
        · obtain ⟨w, ew, -, lw, -⟩ := sOk_at hT (a := s) (b := at_) rfl (by omega)
          have wV := (st_in hT ew).2.2.2.1
          rw [if_neg (by omega), ew, Int.toNat_natCast] at nxt
          refine xild2 104 ⟨u37, _, rfl⟩ rfl rfl ?_
          refine xild 105 ⟨u37, _, rfl⟩ rfl rfl ?_
          refine xcmp_ne 108 ⟨u37, _, rfl⟩ rfl (fun c105 => ?_) (fun c105 => ?_)
          · have nx : ¬ wl T a b false (k + 1) x = some x := fun z => by rw [nxt] at z; have := Option.some.inj z; omega
            rw [cle, if_neg nx, if_neg (by rw [nxt]; simp)] at hcl
            refine xinc 125 (1) ⟨u37, _, rfl⟩ rfl rfl rfl (by decide) (by omega) (by omega) (fun z122 h122 => ?_)
            refine xgoto ⟨u37, _, rfl⟩ ?_
            exact ih (k + 1) w _ z122 _ hp83 (by omega) (by omega) (by omega) nxt hcl (fun j j1 j2 => by
              by_cases q : j = k + 1
              · rw [q]; exact nx
              · exact hno j j1 (by omega)) hH83 (hF.trans F83) lo0 (ro83 (by omega))
          · refine xild2 110 ⟨u37, _, rfl⟩ rfl rfl ?_
            refine xald 111 ⟨u37, _, rfl⟩ rfl rfl ?_
            refine xgetC 114 hH83 ⟨u37, _, rfl⟩ rfl (by decide) (by decide) rfl rfl (by decide) (fun z111 h111 => ?_)
            refine xcmp_ne 117 ⟨u37, _, rfl⟩ rfl (fun c114 => ?_) (fun c114 => ?_)
            · exfalso
              have ke : k % 2 = 0 := by omega
              have wx1 : w = x := by omega
              rw [wx1] at nxt
              rw [show k + 1 = 2 * (k / 2) + 1 by omega] at nxt
              exact wl_odd hT _ _ _ nxt
            · have wx1 : w = x := by omega
              rw [wx1] at nxt
              rw [cle, if_pos nxt] at hcl
              refine xild2 119 ⟨u37, _, rfl⟩ rfl rfl ?_
              refine xcst 120 (1) ⟨u37, _, rfl⟩ rfl (by decide) (fun z119 h119 => ?_)
              refine xadd 121 _ ⟨u37, _, rfl⟩ rfl rfl (by omega) (by omega) (fun z120 h120 => ?_)
              exact xret ⟨u37, _, rfl⟩ rfl (hR _ hp83 hH83 (hF.trans F83) lo0 (by rw [← hcl]; omega) (fun _ j hj2 => ro83 (by omega) j (by omega)))
        · rw [if_pos (by omega)] at nxt
          rw [cle, nxt, if_neg (by simp), if_pos rfl] at hcl
          refine xcst 101 (0) ⟨u37, _, rfl⟩ rfl (by decide) (fun z100 h100 => ?_)
          exact xret ⟨u37, _, rfl⟩ rfl (hR _ hp83 hH83 (hF.trans F83) lo0 (by rw [← hcl]; exact h100) (fun z => by omega))
      by_cases hne : T s at_ = -1
      · refine xist2 54 ⟨u37, _, rfl⟩ rfl rfl ?_
        refine xald 55 ⟨u37, _, rfl⟩ rfl rfl ?_
        refine xgetD 58 (54) hH ⟨u37, _, rfl⟩ rfl (by decide) (by decide) rfl rfl (by decide) ?_
        refine xild 59 ⟨u37, _, rfl⟩ rfl rfl ?_
        refine xild2 61 ⟨u37, _, rfl⟩ rfl rfl ?_
        refine xadd 62 _ ⟨u37, _, rfl⟩ rfl rfl (by omega) (by omega) (fun z61 h61 => ?_)
        refine xild2 64 ⟨u37, _, rfl⟩ rfl rfl ?_
        refine xiast 65 (z61).toInt.toNat hH ⟨u37, _, rfl⟩ rfl (by decide) rfl (by omega) (by omega) (by omega) (by omega) (fun hp64 hH64 U64 => ?_)
        have s64 := U64.1
        have F64 : bFx [54] hp hp64 := bFx_U U64 (by simp)
        have B64 : bdOk hp64 3 V T := bdOk_fr hB (bFx_n F64 (by simp)) (fun _ => bFx_n F64 (by simp)) (fun _ => bFx_n F64 (by simp))
        have L64 : lsN hp64 3 T 225 := lsN_fr hL (bFx_n F64 (by simp)) (fun _ => bFx_n F64 (by simp)) (fun _ => bFx_n F64 (by simp))
        refine xald 66 ⟨u37, _, rfl⟩ rfl rfl ?_
        refine xgetD 69 (55) hH64 ⟨u37, _, rfl⟩ rfl (by decide) (by decide) rfl rfl (by decide) ?_
        refine xild 70 ⟨u37, _, rfl⟩ rfl rfl ?_
        refine xild2 72 ⟨u37, _, rfl⟩ rfl rfl ?_
        refine xadd 73 _ ⟨u37, _, rfl⟩ rfl rfl (by omega) (by omega) (fun z72 h72 => ?_)
        refine xlcst 74 (1) ⟨u37, _, rfl⟩ rfl (by decide) (fun z73 h73 => ?_)
        refine xald 75 ⟨u37, _, rfl⟩ rfl rfl ?_
        refine xild2 77 ⟨u37, _, rfl⟩ rfl rfl ?_
        refine xild2 79 ⟨u37, _, rfl⟩ rfl rfl ?_
        refine xcallC 82 (o := 3) [.int _, .int _] [.long _, .int _, .ref 55] hH64 ⟨u37, _, rfl⟩ rfl rfl (by decide) rfl (by decide) rfl ⟨rfl, rfl, rfl, rfl⟩ rfl (k_nb0 (d := d) hH64 B64 (by omega) hat sV atV hne (fun z79 => ⟨_, rfl, ?_⟩))
        refine xlshl 83 ⟨u37, _, rfl⟩ rfl ?_
        refine xlast 84 (z72).toInt.toNat hH64 ⟨u37, _, rfl⟩ rfl (by decide) rfl (by omega) (by omega) (fun hp83 hH83 U83 => ?_)
        refine rest hp83 z79 hH83 ((F64.mono (by simp)).trans ((bY_bx (W := [55]) U83 (by simp)).mono (by simp))) (fun i hi => ⟨?_, ?_⟩) ?_ (fun z => absurd hne z)
        · rw [rV_ne U83 (by omega), rU_ne U64 (by first | decide | exact (fun z => absurd z.1 (by decide)) | omega)]
        · rw [rJ_eq (U83.2 55 i (by omega)), rJ_ne U64 (by omega)]
        · rw [rV_ne U83 (by omega), show B + k = z61.toInt.toNat by omega, U64.1]
          exact hat
      · refine xist2 54 ⟨u37, _, rfl⟩ rfl rfl ?_
        refine xald 55 ⟨u37, _, rfl⟩ rfl rfl ?_
        refine xgetD 58 (54) hH ⟨u37, _, rfl⟩ rfl (by decide) (by decide) rfl rfl (by decide) ?_
        refine xild 59 ⟨u37, _, rfl⟩ rfl rfl ?_
        refine xild2 61 ⟨u37, _, rfl⟩ rfl rfl ?_
        refine xadd 62 _ ⟨u37, _, rfl⟩ rfl rfl (by omega) (by omega) (fun z61 h61 => ?_)
        refine xild2 64 ⟨u37, _, rfl⟩ rfl rfl ?_
        refine xiast 65 (z61).toInt.toNat hH ⟨u37, _, rfl⟩ rfl (by decide) rfl (by omega) (by omega) (by omega) (by omega) (fun hp64 hH64 U64 => ?_)
        have s64 := U64.1
        have F64 : bFx [54] hp hp64 := bFx_U U64 (by simp)
        have B64 : bdOk hp64 3 V T := bdOk_fr hB (bFx_n F64 (by simp)) (fun _ => bFx_n F64 (by simp)) (fun _ => bFx_n F64 (by simp))
        have L64 : lsN hp64 3 T 225 := lsN_fr hL (bFx_n F64 (by simp)) (fun _ => bFx_n F64 (by simp)) (fun _ => bFx_n F64 (by simp))
        refine xald 66 ⟨u37, _, rfl⟩ rfl rfl ?_
        refine xgetD 69 (55) hH64 ⟨u37, _, rfl⟩ rfl (by decide) (by decide) rfl rfl (by decide) ?_
        refine xild 70 ⟨u37, _, rfl⟩ rfl rfl ?_
        refine xild2 72 ⟨u37, _, rfl⟩ rfl rfl ?_
        refine xadd 73 _ ⟨u37, _, rfl⟩ rfl rfl (by omega) (by omega) (fun z72 h72 => ?_)
        refine xlcst 74 (1) ⟨u37, _, rfl⟩ rfl (by decide) (fun z73 h73 => ?_)
        refine xald 75 ⟨u37, _, rfl⟩ rfl rfl ?_
        refine xild2 77 ⟨u37, _, rfl⟩ rfl rfl ?_
        refine xild2 79 ⟨u37, _, rfl⟩ rfl rfl ?_
        refine xcallC 82 (o := 3) [.int _, .int _] [.long _, .int _, .ref 55] hH64 ⟨u37, _, rfl⟩ rfl rfl (by decide) rfl (by decide) rfl ⟨rfl, rfl, rfl, rfl⟩ rfl (k_nbc (d := d) (o := 3) (Or.inl rfl) hH64 B64 L64 (by omega) hat hne (fun z79 t79 a79 b79 h79 => ⟨_, rfl, ?_⟩))
        refine xlshl 83 ⟨u37, _, rfl⟩ rfl ?_
        refine xlast 84 (z72).toInt.toNat hH64 ⟨u37, _, rfl⟩ rfl (by decide) rfl (by omega) (by omega) (fun hp83 hH83 U83 => ?_)
        refine rest hp83 z79 hH83 ((F64.mono (by simp)).trans ((bY_bx (W := [55]) U83 (by simp)).mono (by simp))) (fun i hi => ⟨?_, ?_⟩) ?_ (fun _ => ?_)
        · rw [rV_ne U83 (by omega), rU_ne U64 (by first | decide | exact (fun z => absurd z.1 (by decide)) | omega)]
        · rw [rJ_eq (U83.2 55 i (by omega)), rJ_ne U64 (by omega)]
        · rw [rV_ne U83 (by omega), show B + k = z61.toInt.toNat by omega, U64.1]
          exact hat
        · have et : li T s at_ = t79 := by
            unfold li
            rw [← b79]
            exact (trL_get 225 t79 a79).2.2
          rw [show B + k = z72.toInt.toNat by omega, rV_J U83, et]
          exact j_shl h73 h79 (by omega)
    refine xild2 17 ⟨u37, _, rfl⟩ rfl rfl ?_
    refine xbip 19 (15) ⟨u37, _, rfl⟩ rfl (by decide) (fun z17 h17 => ?_)
    refine xcmp_ge 22 ⟨u37, _, rfl⟩ rfl (fun c19 => ?_) (fun c19 => ?_)
    · omega
    · refine xild 23 ⟨u37, _, rfl⟩ rfl rfl ?_
      refine xild2 25 ⟨u37, _, rfl⟩ rfl rfl ?_
      refine xadd 26 _ ⟨u37, _, rfl⟩ rfl rfl (by omega) (by omega) (fun z25 h25 => ?_)
      refine xald 27 ⟨u37, _, rfl⟩ rfl rfl ?_
      refine xgetD 30 (54) hH ⟨u37, _, rfl⟩ rfl (by decide) (by decide) rfl rfl (by decide) ?_
      refine xlen 31 hH ⟨u37, _, rfl⟩ rfl (by decide) rfl (by decide) (by decide) (fun z30 h30 => ?_)
      refine xcmp_ge 34 ⟨u37, _, rfl⟩ rfl (fun c31 => ?_) (fun c31 => ?_)
      · omega
      · refine xild2 36 ⟨u37, _, rfl⟩ rfl rfl ?_
        refine xcst 37 (2) ⟨u37, _, rfl⟩ rfl (by decide) (fun z36 h36 => ?_)
        refine xrem 38 (Int32.toInt wk % 2) ⟨u37, _, rfl⟩ rfl (by omega) (by omega) (by rw [h36]) (fun z37 h37 => ?_)
        refine xif_ne 41 ⟨u37, _, rfl⟩ rfl (fun c38 => ?_) (fun c38 => ?_)
        · refine xald 49 ⟨u37, _, rfl⟩ rfl rfl ?_
          refine xgetC 52 hH ⟨u37, _, rfl⟩ rfl (by decide) (by decide) rfl rfl (by decide) (fun z49 h49 => ?_)
          exact go _ (by omega)
        · refine xald 42 ⟨u37, _, rfl⟩ rfl rfl ?_
          refine xgetC 45 hH ⟨u37, _, rfl⟩ rfl (by decide) (by decide) rfl rfl (by decide) (fun z42 h42 => ?_)
          refine xgoto ⟨u37, _, rfl⟩ ?_
          exact go _ (by omega)
end
