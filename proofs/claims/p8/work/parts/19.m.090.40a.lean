/-! ===== walks along cycles of two points (pure) ===== -/
def abS (a b : Nat) (s : Bool) : Nat := if s = true then b else a
/-- so many steps from a point, a and b in turn; s: which comes first -/
def wl (T : sT) (a b : Nat) : Bool → Nat → Nat → Option Nat
  | _, 0, u => some u
  | s, n + 1, u => if T (abS a b s) u = -1 then none else wl T a b (!s) n (T (abS a b s) u).toNat
/-- which comes behind so many -/
def pr2 (s : Bool) : Nat → Bool
  | 0 => s
  | n + 1 => pr2 (!s) n
theorem pr2_succ : ∀ (n : Nat) (s : Bool), pr2 s (n + 1) = !pr2 s n
  | 0, s => rfl
  | n + 1, s => pr2_succ n (!s)
theorem pr2_mod : ∀ (n : Nat), pr2 false n = decide (n % 2 = 1)
  | 0 => rfl
  | n + 1 => by
    rw [pr2_succ, pr2_mod n]
    by_cases h : n % 2 = 1
    · rw [decide_eq_true h, decide_eq_false (by omega)]; rfl
    · rw [decide_eq_false h, decide_eq_true (by omega)]; rfl
theorem pr2_even {n : Nat} (h : n % 2 = 0) : ∀ s, pr2 s n = s := fun s => by
  have e : ∀ n s, pr2 s (n + 2) = pr2 s n := fun n s => by show pr2 (!!s) n = _; rw [Bool.not_not]
  have go : ∀ k s, pr2 s (2 * k) = s := fun k => by
    induction k with
    | zero => exact fun s => rfl
    | succ k ih => exact fun s => by rw [show 2 * (k + 1) = 2 * k + 2 by omega, e]; exact ih s
  have := go (n / 2) s
  rw [show 2 * (n / 2) = n by omega] at this
  exact this
theorem pr2_odd {n : Nat} (h : n % 2 = 1) : ∀ s, pr2 s n = !s := fun s => by
  have e := pr2_succ (n - 1) s
  rw [show n - 1 + 1 = n by omega, pr2_even (n := n - 1) (by omega)] at e
  exact e
section WK
variable {V : Nat} {T : sT} {a b : Nat}
theorem wl_add : ∀ (n m : Nat) (s : Bool) (u : Nat), wl T a b s (n + m) u = (wl T a b s n u).bind (fun v => wl T a b (pr2 s n) m v)
  | 0, m, s, u => by rw [Nat.zero_add]; rfl
  | n + 1, m, s, u => by
    rw [show n + 1 + m = (n + m) + 1 by omega]
    show (if T (abS a b s) u = -1 then none else wl T a b (!s) (n + m) (T (abS a b s) u).toNat) = (if T (abS a b s) u = -1 then none else wl T a b (!s) n (T (abS a b s) u).toNat).bind (fun v => wl T a b (pr2 s (n + 1)) m v)
    by_cases h : T (abS a b s) u = -1
    · rw [if_pos h, if_pos h]; rfl
    · rw [if_neg h, if_neg h, wl_add n m (!s)]
      rfl
theorem wl_add_s {n m : Nat} {s : Bool} {u v : Nat} (h : wl T a b s n u = some v) : wl T a b s (n + m) u = wl T a b (pr2 s n) m v := by
  rw [wl_add, h]
  rfl
/-- one step on -/
theorem wl_next {n : Nat} {s : Bool} {u v : Nat} (h : wl T a b s n u = some v) : wl T a b s (n + 1) u = if T (abS a b (pr2 s n)) v = -1 then none else some (T (abS a b (pr2 s n)) v).toNat := by
  rw [wl_add_s h]
  rfl
theorem wl_pre {n m : Nat} {s : Bool} {u w : Nat} (h : wl T a b s (n + m) u = some w) : ∃ v, wl T a b s n u = some v ∧ wl T a b (pr2 s n) m v = some w := by
  rw [wl_add] at h
  cases e : wl T a b s n u with
  | none => rw [e] at h; cases h
  | some v => rw [e] at h; exact ⟨v, rfl, h⟩
theorem st_in (hT : sOk V T) {c u v : Nat} (h : T c u = (v : Int)) : T c v = (u : Int) ∧ ¬ u = v ∧ u < V ∧ v < V ∧ ¬ c = u ∧ ¬ c = v := by
  obtain ⟨k, ek, l1, l2, l3, d1, d2, d3, t1, t2, t3, t4, t5⟩ := sOk_at hT h (by omega)
  have : k = v := by omega
  subst this
  exact ⟨t2, d3, l2, l3, d1, d2⟩
/-- a step is undone by the same step -/
theorem wl_1 (hT : sOk V T) {s : Bool} {u v : Nat} : wl T a b s 1 u = some v ↔ T (abS a b s) u = (v : Int) := by
  show (if T (abS a b s) u = -1 then none else some (T (abS a b s) u).toNat) = some v ↔ _
  constructor
  · intro h
    by_cases e : T (abS a b s) u = -1
    · rw [if_pos e] at h; cases h
    · rw [if_neg e] at h
      obtain ⟨k, ek, -⟩ := sOk_at hT (rfl : T (abS a b s) u = _) e
      cases h
      rw [ek, Int.toNat_natCast]
  · intro h
    rw [if_neg (by omega), h, Int.toNat_natCast]
/-- so many steps back -/
theorem wl_back (hT : sOk V T) : ∀ (n : Nat) (s : Bool) (u v : Nat), wl T a b s n u = some v → wl T a b (!pr2 s n) n v = some u
  | 0, s, u, v, h => by cases h; rfl
  | n + 1, s, u, v, h => by
    rw [show n + 1 = 1 + n by omega] at h
    obtain ⟨w, h1, h2⟩ := wl_pre h
    have i := wl_back hT n (!s) w v h2
    have e1 := (st_in hT ((wl_1 hT).mp h1)).1
    have e2 : pr2 s (n + 1) = pr2 (!s) n := rfl
    rw [e2, wl_add_s i]
    have e3 : pr2 (!pr2 (!s) n) n = s := by
      rcases Nat.mod_two_eq_zero_or_one n with g | g
      · rw [pr2_even g, pr2_even g, Bool.not_not]
      · rw [pr2_odd g, pr2_odd g, Bool.not_not, Bool.not_not]
    rw [e3]
    exact (wl_1 hT).mpr e1
theorem wl_inj (hT : sOk V T) {n : Nat} {s : Bool} {u w v : Nat} (h1 : wl T a b s n u = some v) (h2 : wl T a b s n w = some v) : u = w := by
  have a1 := wl_back hT n s u v h1
  have a2 := wl_back hT n s w v h2
  exact Option.some.inj (a1.symm.trans a2)
/-- no walk of an odd number of steps comes back -/
theorem wl_odd (hT : sOk V T) : ∀ (m : Nat) (s : Bool) (u : Nat), ¬ wl T a b s (2 * m + 1) u = some u
  | 0, s, u, h => by
    have := (st_in hT ((wl_1 hT).mp h)).2.1
    exact this rfl
  | m + 1, s, u, h => by
    rw [show 2 * (m + 1) + 1 = 1 + ((2 * m + 1) + 1) by omega] at h
    obtain ⟨v, h1, h2⟩ := wl_pre h
    obtain ⟨w, h3, h4⟩ := wl_pre h2
    have e1 := (wl_1 hT).mp h1
    have e4 := (wl_1 hT).mp h4
    have ep : pr2 (pr2 s 1) (2 * m + 1) = s := by
      rw [pr2_odd (by omega), pr2_odd (by omega), Bool.not_not]
    rw [ep] at e4
    have e5 := (st_in hT e4).1
    have : v = w := by
      have := e1.symm.trans e5
      omega
    subst this
    exact wl_odd hT m _ v h3
theorem wl_lt (hT : sOk V T) {n : Nat} {s : Bool} {u v : Nat} (hu : u < V) (h : wl T a b s n u = some v) : v < V := by
  cases n with
  | zero => cases h; exact hu
  | succ n =>
    obtain ⟨w, h1, h2⟩ := wl_pre h
    exact (st_in hT ((wl_1 hT).mp h2)).2.2.2.1
/-- a walk keeps off a, b and their third point -/
theorem wl_off (hT : sOk V T) {s : Bool} {u v : Nat} (hu : ¬ u = a ∧ ¬ u = b ∧ ¬ T a b = (u : Int)) (h : T (abS a b s) u = (v : Int)) : ¬ v = a ∧ ¬ v = b ∧ ¬ T a b = (v : Int) := by
  have hb : ∀ c d : Nat, T c d = (u : Int) → T d c = (u : Int) := fun c d e => by
    obtain ⟨k, ek, -, -, -, -, -, -, t1, -⟩ := sOk_at hT e (by omega)
    omega
  cases s
  · have h : T a u = (v : Int) := h
    obtain ⟨k, ek, l1, l2, l3, d1, d2, d3, t1, t2, t3, t4, t5⟩ := sOk_at hT h (by omega)
    have : k = v := by omega
    subst this
    refine ⟨fun z => d2 z.symm, fun z => ?_, fun z => ?_⟩
    · subst z; exact hu.2.2 t2
    · obtain ⟨r, er, -, -, -, -, -, -, q1, q2, -⟩ := sOk_at hT z (by omega)
      have : r = k := by omega
      subst this
      have : (b : Int) = (u : Int) := q2.symm.trans t2
      omega
  · have h : T b u = (v : Int) := h
    obtain ⟨k, ek, l1, l2, l3, d1, d2, d3, t1, t2, t3, t4, t5⟩ := sOk_at hT h (by omega)
    have : k = v := by omega
    subst this
    refine ⟨fun z => ?_, fun z => d2 z.symm, fun z => ?_⟩
    · subst z; exact hu.2.2 (hb _ _ t2)
    · obtain ⟨r, er, -, -, -, -, -, -, q1, q2, q3, -⟩ := sOk_at hT z (by omega)
      have : r = k := by omega
      subst this
      have : (a : Int) = (u : Int) := q3.symm.trans t2
      omega
theorem wl_offs (hT : sOk V T) : ∀ (n : Nat) (s : Bool) (u v : Nat), (¬ u = a ∧ ¬ u = b ∧ ¬ T a b = (u : Int)) → wl T a b s n u = some v → ¬ v = a ∧ ¬ v = b ∧ ¬ T a b = (v : Int)
  | 0, s, u, v, hu, h => by cases h; exact hu
  | n + 1, s, u, v, hu, h => by
    rw [show n + 1 = 1 + n by omega] at h
    obtain ⟨w, h1, h2⟩ := wl_pre h
    exact wl_offs hT n _ w v (wl_off hT hu ((wl_1 hT).mp h1)) h2
/-! how far a walk goes until it is back -/
def clF (T : sT) (a b x : Nat) : Nat → Nat → Nat
  | 0, _ => 0
  | f + 1, k => if wl T a b false (k + 1) x = some x then k + 1 else if wl T a b false (k + 1) x = none then 0 else clF T a b x f (k + 1)
abbrev cyL (T : sT) (a b x : Nat) : Nat := clF T a b x 15 0
theorem clF_s (T : sT) (a b x : Nat) : ∀ (f k : Nat), (∀ j, 0 < j → j ≤ k → ¬ wl T a b false j x = some x) → (clF T a b x f k = 0 ∧ ∀ j, 0 < j → j ≤ k + f → ¬ wl T a b false j x = some x) ∨ (0 < clF T a b x f k ∧ k < clF T a b x f k ∧ clF T a b x f k ≤ k + f ∧ wl T a b false (clF T a b x f k) x = some x ∧ ∀ j, 0 < j → j < clF T a b x f k → ¬ wl T a b false j x = some x)
  | 0, k, h => Or.inl ⟨rfl, h⟩
  | f + 1, k, h => by
    unfold clF
    by_cases e : wl T a b false (k + 1) x = some x
    · rw [if_pos e]
      exact Or.inr ⟨Nat.succ_pos k, Nat.lt_succ_self k, by omega, e, fun j j1 j2 => h j j1 (by omega)⟩
    · rw [if_neg e]
      by_cases g : wl T a b false (k + 1) x = none
      · rw [if_pos g]
        refine Or.inl ⟨rfl, fun j j1 j2 z => ?_⟩
        by_cases hk : j ≤ k
        · exact h j j1 hk z
        · obtain ⟨m, rfl⟩ := Nat.exists_eq_add_of_le (show k + 1 ≤ j by omega)
          obtain ⟨v, v1, -⟩ := wl_pre z
          rw [g] at v1
          cases v1
      · rw [if_neg g]
        have hk : ∀ j, 0 < j → j ≤ k + 1 → ¬ wl T a b false j x = some x := fun j j1 j2 => by
          by_cases q : j = k + 1
          · rw [q]; exact e
          · exact h j j1 (by omega)
        rcases clF_s T a b x f (k + 1) hk with ⟨r1, r2⟩ | ⟨r0, r1, r2, r3, r4⟩
        · exact Or.inl ⟨r1, fun j j1 j2 => r2 j j1 (by omega)⟩
        · exact Or.inr ⟨r0, by omega, by omega, r3, r4⟩
/-- the point behind so many steps -/
abbrev rk (T : sT) (a b x k : Nat) : Nat := (wl T a b false k x).getD 0
theorem cyL_0 {x : Nat} : cyL T a b x = 0 → ∀ j, 0 < j → j ≤ 15 → ¬ wl T a b false j x = some x := fun h => by
  rcases clF_s T a b x 15 0 (fun j j1 j2 => by omega) with ⟨r1, r2⟩ | ⟨r0, -⟩
  · exact fun j j1 j2 => r2 j j1 (by omega)
  · have h : clF T a b x 15 0 = 0 := h
    omega
theorem cyL_s {x : Nat} (hT : sOk V T) (h : 0 < cyL T a b x) : cyL T a b x ≤ 15 ∧ wl T a b false (cyL T a b x) x = some x ∧ (∀ j, 0 < j → j < cyL T a b x → ¬ wl T a b false j x = some x) ∧ cyL T a b x % 2 = 0 := by
  rcases clF_s T a b x 15 0 (fun j j1 j2 => by omega) with ⟨r1, -⟩ | ⟨-, -, r2, r3, r4⟩
  · have h : 0 < clF T a b x 15 0 := h
    omega
  · refine ⟨by show clF T a b x 15 0 ≤ 15; omega, r3, r4, ?_⟩
    rcases Nat.mod_two_eq_zero_or_one (cyL T a b x) with g | g
    · exact g
    · have e : cyL T a b x = 2 * (cyL T a b x / 2) + 1 := by omega
      have r3 : wl T a b false (cyL T a b x) x = some x := r3
      rw [e] at r3
      exact absurd r3 (wl_odd hT _ _ _)
theorem cyL_pos {x n : Nat} (h1 : 0 < n) (h2 : n ≤ 15) (h : wl T a b false n x = some x) : 0 < cyL T a b x := by
  rcases Nat.eq_zero_or_pos (cyL T a b x) with e | e
  · exact absurd h (cyL_0 e n h1 h2)
  · exact e
/-- round and round -/
theorem wl_per {x n : Nat} (hn : n % 2 = 0) (h : wl T a b false n x = some x) : ∀ (m k : Nat), wl T a b false (n * m + k) x = wl T a b false k x
  | 0, k => by rw [Nat.mul_zero, Nat.zero_add]
  | m + 1, k => by
    rw [show n * (m + 1) + k = n + (n * m + k) by rw [Nat.mul_add]; omega, wl_add_s h, pr2_even hn]
    exact wl_per hn h m k
theorem wl_mod {x n : Nat} (hn : n % 2 = 0) (h : wl T a b false n x = some x) (k : Nat) : wl T a b false k x = wl T a b false (k % n) x := by
  have := wl_per hn h (k / n) (k % n)
  rw [Nat.div_add_mod] at this
  exact this
theorem wl_all {x n : Nat} (hn : n % 2 = 0) (h0 : 0 < n) (h : wl T a b false n x = some x) (k : Nat) : ∃ v, wl T a b false k x = some v := by
  rw [wl_mod hn h]
  have l := Nat.mod_lt k h0
  obtain ⟨m, e⟩ := Nat.exists_eq_add_of_le (Nat.le_of_lt l)
  rw [e] at h
  obtain ⟨v, v1, -⟩ := wl_pre h
  exact ⟨v, v1⟩
/-- points on one way: each leads to the other -/
theorem wl_sym {x y n k : Nat} (hT : sOk V T) (hn : n % 2 = 0) (h0 : 0 < n) (h : wl T a b false n x = some x) (hy : wl T a b false k x = some y) : (∃ j, wl T a b false j y = some x) ∧ wl T a b false n y = some y ∧ ∀ j v, wl T a b false j y = some v → ∃ i, wl T a b false i x = some v := by
  rcases Nat.mod_two_eq_zero_or_one k with g | g
  · have go : ∀ j, wl T a b false j y = wl T a b false (k + j) x := fun j => by rw [wl_add_s hy, pr2_even g]
    refine ⟨⟨n * k - k + 0, ?_⟩, ?_, fun j v e => ⟨k + j, by rw [← go]; exact e⟩⟩
    · have : k ≤ n * k := Nat.le_mul_of_pos_left k h0
      rw [go, show k + (n * k - k + 0) = n * k + 0 by omega, wl_per hn h]
      rfl
    · rw [go, Nat.add_comm, wl_add_s h, pr2_even hn]
      exact hy
  · have bk := wl_back hT k false x y hy
    rw [pr2_odd g, Bool.not_not, show (false : Bool) = false from rfl] at bk
    have bk : wl T a b false k y = some x := by
      have := wl_back hT k false x y hy
      rw [pr2_odd g] at this
      exact this
    -- from y, k steps back to x, then on against the way
    have h2 : wl T a b true n x = some x := by
      have := wl_back hT n false x x h
      rw [pr2_even hn] at this
      exact this
    have yn : wl T a b false n y = some y := by
      have e1 : wl T a b false (k + n) y = some x := by rw [wl_add_s bk, pr2_odd g]; exact h2
      rw [Nat.add_comm] at e1
      obtain ⟨w, w1, w2⟩ := wl_pre e1
      rw [pr2_even hn] at w2
      have := wl_inj hT w2 bk
      rw [this] at w1
      exact w1
    refine ⟨⟨k, bk⟩, yn, fun j v e => ?_⟩
    -- from x by the first k, then: each point of y's way is on x's
    have e1 : wl T a b false (n * (j + 1) - j + (j - 0)) y = wl T a b false (n * (j + 1) + 0) y := by
      have : j ≤ n * (j + 1) := Nat.le_trans (Nat.le_succ j) (Nat.le_mul_of_pos_left (j + 1) h0)
      rw [show n * (j + 1) - j + (j - 0) = n * (j + 1) + 0 by omega]
    -- back from y by j steps of its way is v's way to y; v is x's way at some place
    have bj := wl_back hT j false y v e
    have key : ∀ i w, wl T a b false i y = some w → ∃ q, wl T a b false q x = some w := fun i => by
      induction i with
      | zero => exact fun w e => ⟨k, by cases e; exact hy⟩
      | succ i ih =>
        intro w e
        obtain ⟨u, u1, u2⟩ := wl_pre e
        obtain ⟨q, hq⟩ := ih u u1
        -- u on x's way; its neighbours are there
        have hs := (wl_1 hT).mp u2
        by_cases par : pr2 false q = pr2 false i
        · exact ⟨q + 1, by rw [wl_add_s hq, par]; exact u2⟩
        · -- one back
          have hq2 : wl T a b false (n + q) x = some u := by rw [wl_add_s h, pr2_even hn]; exact hq
          rw [show n + q = (n + q - 1) + 1 by omega] at hq2
          obtain ⟨r, r1, r2⟩ := wl_pre hq2
          have e5 := (st_in hT ((wl_1 hT).mp r2)).1
          have pe : pr2 false (n + q - 1) = pr2 false i := by
            have a1 := pr2_succ (n + q - 1) false
            rw [show n + q - 1 + 1 = n + q by omega, pr2_mod] at a1
            rw [pr2_mod] at par
            have a2 : decide ((n + q) % 2 = 1) = decide (q % 2 = 1) := by rw [decide_eq_decide]; omega
            rw [a2] at a1
            cases h1 : pr2 false (n + q - 1) <;> cases h2 : pr2 false i <;> cases h3 : decide (q % 2 = 1) <;> simp_all
          rw [pe] at e5
          have : r = w := by
            have := e5.symm.trans hs
            omega
          rw [← this]
          exact ⟨n + q - 1, r1⟩
    exact key j v e
/-- the points of a way are different until it is back -/
theorem wl_dif {x : Nat} (hT : sOk V T) (h : 0 < cyL T a b x) {i j : Nat} (hi : i < j) (hj : j < cyL T a b x) : ¬ wl T a b false i x = wl T a b false j x := by
  obtain ⟨c1, c2, c3, c4⟩ := cyL_s hT h
  obtain ⟨v, hv⟩ := wl_all c4 h c2 i
  intro e
  rw [hv] at e
  rcases Nat.mod_two_eq_zero_or_one (j - i) with g | g
  · -- the same side: a return too early
    have e2 : wl T a b false ((j - i) + i) x = some v := by rw [show j - i + i = j by omega]; exact e.symm
    obtain ⟨w, w1, w2⟩ := wl_pre e2
    rw [pr2_even g] at w2
    have := wl_inj hT w2 hv
    rw [this] at w1
    exact c3 (j - i) (by omega) (by omega) w1
  · have e2 : wl T a b false (i + (j - i)) x = some v := by rw [show i + (j - i) = j by omega]; exact e.symm
    rw [wl_add_s hv] at e2
    rw [show j - i = 2 * ((j - i) / 2) + 1 by omega] at e2
    exact wl_odd hT _ _ _ e2
/-- four points at least -/
theorem cyL_4 {x : Nat} (hT : sOk V T) (hab : ¬ a = b) (h : 0 < cyL T a b x) : 4 ≤ cyL T a b x := by
  obtain ⟨c1, c2, c3, c4⟩ := cyL_s hT h
  rcases Nat.lt_or_ge (cyL T a b x) 4 with g | g
  · have e : cyL T a b x = 2 := by omega
    rw [e] at c2
    obtain ⟨v, v1, v2⟩ := wl_pre (n := 1) (m := 1) c2
    have e1 : T a x = (v : Int) := (wl_1 hT).mp v1
    have e2 : T b v = (x : Int) := (wl_1 hT).mp v2
    obtain ⟨k, ek, -, -, -, -, -, -, t1, t2, t3, t4, t5⟩ := sOk_at hT e1 (by omega)
    obtain ⟨k2, ek2, -, -, -, -, -, -, q1, q2, q3, q4, q5⟩ := sOk_at hT e2 (by omega)
    have : k = v := by omega
    subst this
    have : k2 = x := by omega
    subst this
    have := t3.symm.trans q5
    omega
  · exact g
end WK
