/-! ===== what a switch along a cycle takes and lays (pure) ===== -/
theorem prw_pw : ∀ {L : List Nat}, L.Pairwise sh1 → prw L
  | [], _ => trivial
  | a :: r, h => by
    obtain ⟨h1, h2⟩ := List.pairwise_cons.mp h
    exact ⟨h1, prw_pw h2⟩
theorem prw_rg {f : Nat → Nat} {c : Nat} (h : ∀ j k, j < k → k < c → sh1 (f j) (f k)) : prw ((List.range c).map f) := prw_pw (by
  rw [List.pairwise_map]
  exact List.Pairwise.imp_of_mem (fun {j k} hj hk hlt => h j k hlt (List.mem_range.mp hk)) List.pairwise_lt_range)
section CM
variable {V : Nat} {T : sT} {a b : Nat}
theorem sAx (k : Nat) : abS a b (pr2 false k) = if k % 2 = 1 then b else a := by
  rw [pr2_mod]
  unfold abS
  by_cases h : k % 2 = 1
  · rw [if_pos h, decide_eq_true h, if_pos rfl]
  · rw [if_neg h, decide_eq_false h, if_neg (by simp)]
theorem sBx (k : Nat) : abS a b (!pr2 false k) = if k % 2 = 1 then a else b := by
  rw [pr2_mod]
  unfold abS
  by_cases h : k % 2 = 1
  · rw [if_pos h, decide_eq_true h, if_neg (by simp)]
  · rw [if_neg h, decide_eq_false h, if_pos (by simp)]
def mA (T : sT) (a b x k : Nat) : Nat := m3 (abS a b (pr2 false k)) (rk T a b x k) (rk T a b x (k + 1))
def mB (T : sT) (a b x k : Nat) : Nat := m3 (abS a b (!pr2 false k)) (rk T a b x k) (rk T a b x (k + 1))
def cyT (T : sT) (a b x c : Nat) : List Nat := (List.range c).map (fun k => li T (abS a b (pr2 false k)) (rk T a b x k))
def cyA (T : sT) (a b x c : Nat) : List Nat := (List.range c).map (mA T a b x)
def cyC (T : sT) (a b x c : Nat) : List Nat := (List.range c).map (mB T a b x)
/-- what a state becomes by a switch along the cycle of x -/
def swC (T : sT) (a b x : Nat) : sT := uPs (uTs T (cyA T a b x (cyL T a b x))) (cyC T a b x (cyL T a b x))
abbrev offP (T : sT) (a b x : Nat) : Prop := ¬ x = a ∧ ¬ x = b ∧ ¬ T a b = (x : Int)
theorem cy_f {x : Nat} (hT : sOk V T) (hx : x < V) (ho : offP T a b x) (hp : 0 < cyL T a b x) (k : Nat) : (¬ rk T a b x k = a ∧ ¬ rk T a b x k = b) ∧ rk T a b x k < V ∧ T (abS a b (pr2 false k)) (rk T a b x k) = ((rk T a b x (k + 1) : Nat) : Int) := by
  obtain ⟨c1, c2, c3, c4⟩ := cyL_s hT hp
  obtain ⟨v, hv⟩ := wl_all c4 hp c2 k
  obtain ⟨w, hw⟩ := wl_all c4 hp c2 (k + 1)
  have n := wl_next hv
  rw [hw] at n
  rw [rk_some hv, rk_some hw]
  have of := wl_offs hT k false x v ho hv
  refine ⟨⟨of.1, of.2.1⟩, wl_lt hT hx hv, ?_⟩
  by_cases e : T (abS a b (pr2 false k)) v = -1
  · rw [if_pos e] at n; cases n
  · rw [if_neg e] at n
    obtain ⟨z, ez, -⟩ := sOk_at hT (rfl : T (abS a b (pr2 false k)) v = _) e
    have := Option.some.inj n
    rw [ez, Int.toNat_natCast] at this
    rw [ez, this]
theorem cy_c {x : Nat} (hT : sOk V T) (hp : 0 < cyL T a b x) : rk T a b x (cyL T a b x) = x := rk_some (cyL_s hT hp).2.1
theorem cy_inj {x i j : Nat} (hT : sOk V T) (hp : 0 < cyL T a b x) (hi : i < cyL T a b x) (hj : j < cyL T a b x) (e : rk T a b x i = rk T a b x j) : i = j := by
  obtain ⟨c1, c2, c3, c4⟩ := cyL_s hT hp
  obtain ⟨v, hv⟩ := wl_all c4 hp c2 i
  obtain ⟨w, hw⟩ := wl_all c4 hp c2 j
  rw [rk_some hv, rk_some hw] at e
  rcases Nat.lt_trichotomy i j with g | g | g
  · exact absurd (by rw [hv, hw, e]) (wl_dif hT hp g hj)
  · exact g
  · exact absurd (by rw [hv, hw, e]) (wl_dif hT hp g hi)
theorem cy_li {x : Nat} (hT : sOk V T) (hx : x < V) (ho : offP T a b x) (hp : 0 < cyL T a b x) (k : Nat) : li T (abS a b (pr2 false k)) (rk T a b x k) < (trL T 225).length ∧ mN T (li T (abS a b (pr2 false k)) (rk T a b x k)) = mA T a b x k := by
  obtain ⟨f1, f2, f3⟩ := cy_f hT hx ho hp k
  obtain ⟨w, e1, e2, -, -, -, -, -, -, l, m, -⟩ := li_s hT (u := abS a b (pr2 false k)) (v := rk T a b x k) (by omega)
  refine ⟨l, ?_⟩
  have : w = rk T a b x (k + 1) := by omega
  rw [m, this]
  rfl
theorem cyA_m {x : Nat} (hT : sOk V T) (hx : x < V) (ho : offP T a b x) (hp : 0 < cyL T a b x) (c : Nat) : (cyT T a b x c).map (mN T) = cyA T a b x c := by
  unfold cyT cyA
  rw [List.map_map]
  exact List.map_congr_left (fun k _ => (cy_li hT hx ho hp k).2)
theorem cy_dj {x j k : Nat} (hT : sOk V T) (hab : ¬ a = b) (hx : x < V) (ho : offP T a b x) (hp : 0 < cyL T a b x) (hj : j < cyL T a b x) (hk : k < cyL T a b x) (hne : ¬ j = k) : sh1 (mA T a b x j) (mA T a b x k) := by
  obtain ⟨lj, ej⟩ := cy_li hT hx ho hp j
  obtain ⟨lk, ek⟩ := cy_li hT hx ho hp k
  obtain ⟨-, -, -, c4⟩ := cyL_s hT hp
  have cc := cy_c hT hp
  rw [← ej, ← ek]
  refine sh_m hT lj lk (fun e => hne ?_)
  have em : mA T a b x j = mA T a b x k := by rw [← ej, ← ek, e]
  have tb : ∀ u, (u = abS a b (pr2 false j) ∨ u = rk T a b x j ∨ u = rk T a b x (j + 1)) ↔ (u = abS a b (pr2 false k) ∨ u = rk T a b x k ∨ u = rk T a b x (k + 1)) := fun u => by
    have h := congrArg (fun z => z.testBit u) em
    unfold mA at h
    simp only [m3_test, decide_eq_decide] at h
    exact h
  have oj := (cy_f hT hx ho hp j).1
  have ok1 := (cy_f hT hx ho hp (k + 1)).1
  have ok := (cy_f hT hx ho hp k).1
  have t1 := (tb (rk T a b x j)).mp (Or.inr (Or.inl rfl))
  have t2 := (tb (abS a b (pr2 false j))).mp (Or.inl rfl)
  rw [sAx, sAx] at t2
  rw [sAx] at t1
  have nk : ¬ rk T a b x j = (if k % 2 = 1 then b else a) := by split <;> omega
  have hs : (if j % 2 = 1 then b else a) = (if k % 2 = 1 then b else a) := by
    rcases t2 with t | t | t
    · exact t
    · exfalso; revert t; split <;> omega
    · exfalso; revert t; split <;> omega
  have par : j % 2 = k % 2 := by
    by_cases g1 : j % 2 = 1 <;> by_cases g2 : k % 2 = 1
    · omega
    · rw [if_pos g1, if_neg g2] at hs; omega
    · rw [if_neg g1, if_pos g2] at hs; omega
    · omega
  rcases t1 with t | t | t
  · exact absurd t nk
  · exact cy_inj hT hp hj hk t
  · exfalso
    by_cases g : k + 1 < cyL T a b x
    · have := cy_inj hT hp hj g t
      omega
    · have g2 : k + 1 = cyL T a b x := by omega
      rw [g2, cc] at t
      have := cy_inj hT hp hj hp (t.trans rfl : rk T a b x j = rk T a b x 0)
      omega
/-- a and b exchanged -/
def sw2 (a b u : Nat) : Nat := if u = a then b else if u = b then a else u
theorem sw_in {s : Bool} {p q u v : Nat} (hab : ¬ a = b) (hp : ¬ p = a ∧ ¬ p = b) (hq : ¬ q = a ∧ ¬ q = b) (h : sPr (abS a b (!s)) p q u v) : sPr (abS a b s) p q (sw2 a b u) (sw2 a b v) := by
  have mem : ∀ w, (w = abS a b (!s) ∨ w = p ∨ w = q) → (sw2 a b w = abS a b s ∨ sw2 a b w = p ∨ sw2 a b w = q) := fun w hw => by
    rcases hw with e | e | e
    · refine Or.inl ?_
      rw [e]
      cases s
      · show (if b = a then b else if b = b then a else b) = a
        rw [if_neg (fun z => hab z.symm), if_pos rfl]
      · show (if a = a then b else if a = b then a else a) = b
        rw [if_pos rfl]
    · refine Or.inr (Or.inl ?_)
      rw [e]
      unfold sw2
      rw [if_neg hp.1, if_neg hp.2]
    · refine Or.inr (Or.inr ?_)
      rw [e]
      unfold sw2
      rw [if_neg hq.1, if_neg hq.2]
  obtain ⟨h0, h1, h2⟩ := h
  refine ⟨fun e => h0 ?_, mem u h1, mem v h2⟩
  unfold sw2 at e
  by_cases g1 : u = a <;> by_cases g2 : v = a
  · omega
  · rw [if_pos g1, if_neg g2] at e
    by_cases g3 : v = b
    · rw [if_pos g3] at e; omega
    · rw [if_neg g3] at e; omega
  · rw [if_neg g1, if_pos g2] at e
    by_cases g3 : u = b
    · rw [if_pos g3] at e; omega
    · rw [if_neg g3] at e; omega
  · rw [if_neg g1, if_neg g2] at e
    by_cases g3 : u = b <;> by_cases g4 : v = b
    · omega
    · rw [if_pos g3, if_neg g4] at e; omega
    · rw [if_neg g3, if_pos g4] at e; omega
    · rw [if_neg g3, if_neg g4] at e; exact e
theorem cyB_dj {x j k : Nat} (hT : sOk V T) (hab : ¬ a = b) (hx : x < V) (ho : offP T a b x) (hp : 0 < cyL T a b x) (hj : j < cyL T a b x) (hk : k < cyL T a b x) (hne : ¬ j = k) : sh1 (mB T a b x j) (mB T a b x k) := fun u v h1 h2 => by
  have g1 := sw_in hab (cy_f hT hx ho hp j).1 (cy_f hT hx ho hp (j + 1)).1 (in2_3.mp h1)
  have g2 := sw_in hab (cy_f hT hx ho hp k).1 (cy_f hT hx ho hp (k + 1)).1 (in2_3.mp h2)
  exact cy_dj hT hab hx ho hp hj hk hne _ _ (in2_3.mpr g1) (in2_3.mpr g2)
/-- the pairs of what is laid were the pairs of what is taken -/
theorem cy_fr {x k u v : Nat} (hT : sOk V T) (hx : x < V) (ho : offP T a b x) (hp : 0 < cyL T a b x) (hk : k < cyL T a b x) (h : sPr (abS a b (!pr2 false k)) (rk T a b x k) (rk T a b x (k + 1)) u v) : ∃ j, j < cyL T a b x ∧ in2 (mA T a b x j) u v := by
  obtain ⟨-, -, -, c4⟩ := cyL_s hT hp
  have cc := cy_c hT hp
  have mk : ∀ j, j < cyL T a b x → ∀ p q, ¬ p = q → (p = abS a b (pr2 false j) ∨ p = rk T a b x j ∨ p = rk T a b x (j + 1)) → (q = abS a b (pr2 false j) ∨ q = rk T a b x j ∨ q = rk T a b x (j + 1)) → ∃ j, j < cyL T a b x ∧ in2 (mA T a b x j) p q := fun j hj p q g0 g1 g2 => ⟨j, hj, in2_3.mpr ⟨g0, g1, g2⟩⟩
  have o1 : ∃ j, j < cyL T a b x ∧ abS a b (!pr2 false k) = abS a b (pr2 false j) ∧ (rk T a b x k = rk T a b x j ∨ rk T a b x k = rk T a b x (j + 1)) := by
    by_cases g : k = 0
    · refine ⟨cyL T a b x - 1, by omega, ?_, Or.inr ?_⟩
      · rw [sBx, sAx, if_neg (by omega), if_pos (by omega)]
      · rw [show cyL T a b x - 1 + 1 = cyL T a b x by omega, cc, g]
        rfl
    · refine ⟨k - 1, by omega, ?_, Or.inr ?_⟩
      · rw [sBx, sAx]
        by_cases g2 : k % 2 = 1
        · rw [if_pos g2, if_neg (by omega)]
        · rw [if_neg g2, if_pos (by omega)]
      · rw [show k - 1 + 1 = k by omega]
  have o2 : ∃ j, j < cyL T a b x ∧ abS a b (!pr2 false k) = abS a b (pr2 false j) ∧ (rk T a b x (k + 1) = rk T a b x j ∨ rk T a b x (k + 1) = rk T a b x (j + 1)) := by
    by_cases g : k + 1 < cyL T a b x
    · refine ⟨k + 1, g, ?_, Or.inl rfl⟩
      rw [sBx, sAx]
      by_cases g2 : k % 2 = 1
      · rw [if_pos g2, if_neg (by omega)]
      · rw [if_neg g2, if_pos (by omega)]
    · refine ⟨0, hp, ?_, Or.inl ?_⟩
      · rw [sBx, sAx, if_pos (by omega), if_neg (by omega)]
      · rw [show k + 1 = cyL T a b x by omega, cc]
        rfl
  obtain ⟨j1, j1l, s1, r1⟩ := o1
  obtain ⟨j2, j2l, s2, r2⟩ := o2
  obtain ⟨h0, h1, h2⟩ := h
  rcases h1 with e1 | e1 | e1 <;> rcases h2 with e2 | e2 | e2
  · exact absurd (e1.trans e2.symm) h0
  · exact mk j1 j1l u v h0 (Or.inl (e1.trans s1)) (Or.inr (by rw [e2]; exact r1))
  · exact mk j2 j2l u v h0 (Or.inl (e1.trans s2)) (Or.inr (by rw [e2]; exact r2))
  · exact mk j1 j1l u v h0 (Or.inr (by rw [e1]; exact r1)) (Or.inl (e2.trans s1))
  · exact absurd (e1.trans e2.symm) h0
  · exact mk k hk u v h0 (Or.inr (Or.inl e1)) (Or.inr (Or.inr e2))
  · exact mk j2 j2l u v h0 (Or.inr (by rw [e1]; exact r2)) (Or.inl (e2.trans s2))
  · exact mk k hk u v h0 (Or.inr (Or.inr e1)) (Or.inr (Or.inl e2))
  · exact absurd (e1.trans e2.symm) h0
/-- the switch can be made -/
theorem cy_ok {x : Nat} (hT : sOk V T) (aV : a < V) (bV : b < V) (hab : ¬ a = b) (hx : x < V) (ho : offP T a b x) (hp : 0 < cyL T a b x) : tkOk T (cyA T a b x (cyL T a b x)) ∧ sOk V (uTs T (cyA T a b x (cyL T a b x))) ∧ ptOk V (uTs T (cyA T a b x (cyL T a b x))) (cyC T a b x (cyL T a b x)) ∧ sOk V (swC T a b x) := by
  have h1 : tkOk T (cyA T a b x (cyL T a b x)) := tkOk_of (fun m hm => by
    obtain ⟨k, hk, e⟩ := List.mem_map.mp hm
    obtain ⟨l, q⟩ := cy_li hT hx ho hp k
    rw [← e, ← q]
    exact triM_m hT l) (prw_rg (fun j k g1 g2 => cy_dj hT hab hx ho hp (by omega) g2 (by omega)))
  have h2 := sOk_uTs hT h1
  have h3 : ptOk V (uTs T (cyA T a b x (cyL T a b x))) (cyC T a b x (cyL T a b x)) := ptOk_of (fun m hm => by
    obtain ⟨k, hk, e⟩ := List.mem_map.mp hm
    have hk := List.mem_range.mp hk
    obtain ⟨f1, f2, f3⟩ := cy_f hT hx ho hp k
    obtain ⟨g1, g2, -⟩ := cy_f hT hx ho hp (k + 1)
    have ne := (st_in hT f3).2.1
    rw [← e]
    refine freM_of h2 (by rw [sBx]; split <;> assumption) f2 g2 (by rw [sBx]; split <;> omega) ne (by rw [sBx]; split <;> omega) (fun u v q => ?_)
    obtain ⟨j, j1, j2⟩ := cy_fr hT hx ho hp hk q
    exact uTs_in (m := mA T a b x j) (List.mem_map.mpr ⟨j, List.mem_range.mpr j1, rfl⟩) j2) (prw_rg (fun j k g1 g2 => cyB_dj hT hab hx ho hp (by omega) g2 (by omega)))
  exact ⟨h1, h2, h3, sOk_uPs h2 h3⟩
end CM
