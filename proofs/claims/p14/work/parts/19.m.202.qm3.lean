/-! ===== triples that meet a set of three points twice ===== -/
theorem bc_3s {a b c M : Nat} (h1 : a < b) (h2 : b < c) (h3 : c < 15) : bcN (M &&& m3 a b c) = ((M.testBit a).toNat + (M.testBit b).toNat + (M.testBit c).toNat : Nat) := by
  rw [Nat.and_comm]
  exact bc_and h1 h2 h3
theorem m3_ext {a b c x y z : Nat} (h : ∀ i, (i = a ∨ i = b ∨ i = c) ↔ (i = x ∨ i = y ∨ i = z)) : m3 a b c = m3 x y z := by
  apply Nat.eq_of_testBit_eq
  intro i
  rw [m3_test, m3_test]
  exact decide_eq_decide.mpr (h i)
theorem bc_3 {a b c M : Nat} (ha : a < 15) (hb : b < 15) (hc : c < 15) (hab : ¬ a = b) (hbc : ¬ b = c) (hac : ¬ a = c) : bcN (M &&& m3 a b c) = ((M.testBit a).toNat + (M.testBit b).toNat + (M.testBit c).toNat : Nat) := by
  have sp : (a < b ∧ b < c) ∨ (a < c ∧ c < b) ∨ (b < a ∧ a < c) ∨ (b < c ∧ c < a) ∨ (c < a ∧ a < b) ∨ (c < b ∧ b < a) := by omega
  rcases sp with s | s | s | s | s | s
  · rw [bc_3s s.1 s.2 hc]
  · rw [m3_ext (x := a) (y := c) (z := b) (fun i => by omega), bc_3s s.1 s.2 hb]; congr 1; omega
  · rw [m3_ext (x := b) (y := a) (z := c) (fun i => by omega), bc_3s s.1 s.2 hc]; congr 1; omega
  · rw [m3_ext (x := b) (y := c) (z := a) (fun i => by omega), bc_3s s.1 s.2 ha]; congr 1; omega
  · rw [m3_ext (x := c) (y := a) (z := b) (fun i => by omega), bc_3s s.1 s.2 hb]; congr 1; omega
  · rw [m3_ext (x := c) (y := b) (z := a) (fun i => by omega), bc_3s s.1 s.2 ha]; congr 1; omega
theorem two_3 : ∀ p q r : Bool, (2 : Int) ≤ ((p.toNat + q.toNat + r.toNat : Nat) : Int) ↔ ((p = true ∧ q = true) ∨ (q = true ∧ r = true) ∨ (p = true ∧ r = true)) := by decide
theorem on_cnt {V : Nat} {T : sT} (hT : sOk V T) {u v : Nat} (huv : ¬ u = v) : ((sm (fun t => iv (onL T t u ∧ onL T t v)) (trL T 225).length : Nat) : Int) = cvT T u v := by
  unfold cvT
  by_cases g : T u v = -1
  · rw [if_pos g, sm_none (fun t ht => iv_f (p := onL T t u ∧ onL T t v) (fun z => (on_T hT ht z.1 z.2 huv).1 g))]
    rfl
  · obtain ⟨w, -, -, -, -, -, -, -, -, k1, -, k2, k3, -⟩ := li_s hT g
    rw [if_neg g, sm_one (f := fun t => iv (onL T t u ∧ onL T t v)) k1 (iv_t (p := onL T (li T u v) u ∧ onL T (li T u v) v) ⟨k2, k3⟩) (fun t ht hne => iv_f (p := onL T t u ∧ onL T t v) (fun z => hne (on_1 hT ht k1 huv z.1 z.2 k2 k3)))]
    rfl
/-- how many triples have two points or more of a set of three -/
noncomputable def iwV (T : sT) (a b c : Nat) : Int := if T a b = (c : Int) then 1 else cvT T a b + cvT T b c + cvT T a c
theorem mt_3 {V : Nat} {T : sT} (hT : sOk V T) {a b c : Nat} (ha : a < V) (hb : b < V) (hc : c < V) (hab : ¬ a = b) (hbc : ¬ b = c) (hac : ¬ a = c) : ((mtC T (m3 a b c) 2 (trL T 225).length : Nat) : Int) = iwV T a b c := by
  have h15 := hT.2.1
  have e : ∀ t, (2 : Int) ≤ bcN (mN T t &&& m3 a b c) ↔ ((onL T t a ∧ onL T t b) ∨ (onL T t b ∧ onL T t c) ∨ (onL T t a ∧ onL T t c)) := by
    intro t
    rw [bc_3 (by omega) (by omega) (by omega) hab hbc hac]
    exact two_3 _ _ _
  have e1 : mtC T (m3 a b c) 2 (trL T 225).length = sm (fun t => iv ((onL T t a ∧ onL T t b) ∨ (onL T t b ∧ onL T t c) ∨ (onL T t a ∧ onL T t c))) (trL T 225).length := by
    unfold mtC
    exact sm_ext _ (fun t _ => iv_eq (e t))
  rw [e1]
  unfold iwV
  by_cases h : T a b = (c : Int)
  · rw [if_pos h]
    obtain ⟨w, ew, -, -, -, -, -, -, -, k1, -, k2, k3, k4⟩ := li_s hT (u := a) (v := b) (by omega)
    have ewc : w = c := by omega
    subst ewc
    rw [sm_one (f := fun t => iv ((onL T t a ∧ onL T t b) ∨ (onL T t b ∧ onL T t w) ∨ (onL T t a ∧ onL T t w))) k1 (iv_t (Or.inl ⟨k2, k3⟩)) (fun t ht hne => iv_f (fun z => hne (by
      rcases z with z | z | z
      · exact on_1 hT ht k1 hab z.1 z.2 k2 k3
      · exact on_1 hT ht k1 hbc z.1 z.2 k3 k4
      · exact on_1 hT ht k1 hac z.1 z.2 k2 k4)))]
    rfl
  · rw [if_neg h]
    have e2 : sm (fun t => iv ((onL T t a ∧ onL T t b) ∨ (onL T t b ∧ onL T t c) ∨ (onL T t a ∧ onL T t c))) (trL T 225).length = sm (fun t => iv (onL T t a ∧ onL T t b)) (trL T 225).length + (sm (fun t => iv (onL T t b ∧ onL T t c)) (trL T 225).length + sm (fun t => iv (onL T t a ∧ onL T t c)) (trL T 225).length) := by
      rw [← sm_add, ← sm_add]
      refine sm_ext _ (fun t ht => ?_)
      have no : ¬ (onL T t a ∧ onL T t b ∧ onL T t c) := fun z => h (on_3 hT ht z.1 z.2.1 z.2.2 hab hac hbc)
      rw [iv_or (fun z => no ⟨z.1.1, z.1.2, z.2.elim (fun y => y.2) (fun y => y.2)⟩), iv_or (fun z => no ⟨z.2.1, z.1.1, z.1.2⟩)]
    have c1 := on_cnt hT hab
    have c2 := on_cnt hT hbc
    have c3 := on_cnt hT hac
    rw [e2]
    omega
