/-! ===== ways by hand: walks ===== -/
def ab (a b k : Nat) : Nat := if k % 2 = 0 then a else b
def wS (hp : amH) (a b x : Nat) : Nat → Nat
  | 0 => x
  | k + 1 => (tT hp (wS hp a b x k) (ab a b k)).toNat
def tri (a b : Nat) (X : Nat → Nat) (k : Nat) : Nat × Nat × Nat := (ab a b k, X k, X (k + 1))
theorem ab_or (a b k : Nat) : (k % 2 = 0 ∧ ab a b k = a) ∨ (k % 2 = 1 ∧ ab a b k = b) := by
  unfold ab
  split <;> omega
theorem np_a {r k l : Nat} {X : Nat → Nat} (hr : r % 2 = 0) (hX : ∀ i j, i ≤ r → j ≤ r → X i = X j → i = j ∨ (i = 0 ∧ j = r) ∨ (i = r ∧ j = 0)) (hk : k < r) (hl : l < r) (hp : k % 2 = l % 2) (h : X k = X l ∨ X k = X (l + 1) ∨ X (k + 1) = X l ∨ X (k + 1) = X (l + 1)) : k = l := by
  rcases h with h | h | h | h
  · have := hX _ _ (by omega) (by omega) h
    omega
  · have := hX _ _ (by omega) (by omega) h
    omega
  · have := hX _ _ (by omega) (by omega) h
    omega
  · have := hX _ _ (by omega) (by omega) h
    omega
theorem np_b {r k l : Nat} {X : Nat → Nat} (hr4 : 4 ≤ r) (hX : ∀ i j, i ≤ r → j ≤ r → X i = X j → i = j ∨ (i = 0 ∧ j = r) ∨ (i = r ∧ j = 0)) (hk : k < r) (hl : l < r) (h : X k = X l ∨ X k = X (l + 1)) (g : X (k + 1) = X l ∨ X (k + 1) = X (l + 1)) : k = l := by
  rcases h with h | h <;> rcases g with g | g
  · have := hX _ _ (by omega) (by omega) h
    omega
  · have := hX _ _ (by omega) (by omega) h
    omega
  · have h := hX _ _ (by omega) (by omega) h
    have g := hX _ _ (by omega) (by omega) g
    omega
  · have := hX _ _ (by omega) (by omega) g
    omega
/-- a walk that comes back: distinct points, no two of its triples with a pair in common -/
theorem np_tri {a b r : Nat} {X : Nat → Nat} (hab : ¬ a = b) (hr : r % 2 = 0) (hr4 : 4 ≤ r) (ha : ∀ k, k ≤ r → ¬ X k = a) (hb : ∀ k, k ≤ r → ¬ X k = b) (hX : ∀ i j, i ≤ r → j ≤ r → X i = X j → i = j ∨ (i = 0 ∧ j = r) ∨ (i = r ∧ j = 0)) :
    ∀ k l u v, k < r → l < r → prA (tri a b X) k u v → prA (tri a b X) l u v → k = l := by
  intro k l u v hk hl hp1 hp2
  obtain ⟨h1, h2, h3⟩ := hp1
  obtain ⟨-, g2, g3⟩ := hp2
  dsimp only [tri] at h2 h3 g2 g3
  have nab : ∀ w i, i ≤ r → w = X i → ¬ w = a ∧ ¬ w = b := fun w i hi e => ⟨fun z => ha i hi (by rw [← e, z]), fun z => hb i hi (by rw [← e, z])⟩
  have lo : ∀ w i, (w = ab a b i ∨ w = X i ∨ w = X (i + 1)) → i < r → ((w = a ∨ w = b) ∧ w = ab a b i) ∨ ((¬ w = a ∧ ¬ w = b) ∧ (w = X i ∨ w = X (i + 1))) := by
    intro w i h hi
    rcases h with h | h | h
    · have := ab_or a b i
      exact Or.inl ⟨by omega, h⟩
    · exact Or.inr ⟨nab w i (by omega) h, Or.inl h⟩
    · exact Or.inr ⟨nab w (i + 1) (by omega) h, Or.inr h⟩
  have e1 := ab_or a b k
  have e2 := ab_or a b l
  rcases lo u k h2 hk with ⟨q1, q2⟩ | ⟨q1, q2⟩
  · rcases lo u l g2 hl with ⟨p1, p2⟩ | ⟨p1, p2⟩
    · have par : k % 2 = l % 2 := by omega
      rcases lo v k h3 hk with ⟨s1, s2⟩ | ⟨s1, s2⟩
      · exact absurd (q2.trans s2.symm) h1
      · rcases lo v l g3 hl with ⟨t1, t2⟩ | ⟨t1, t2⟩
        · omega
        · refine np_a hr hX hk hl par ?_
          rcases s2 with s2 | s2 <;> rcases t2 with t2 | t2
          · exact Or.inl (s2.symm.trans t2)
          · exact Or.inr (Or.inl (s2.symm.trans t2))
          · exact Or.inr (Or.inr (Or.inl (s2.symm.trans t2)))
          · exact Or.inr (Or.inr (Or.inr (s2.symm.trans t2)))
    · omega
  · rcases lo u l g2 hl with ⟨p1, p2⟩ | ⟨p1, p2⟩
    · omega
    · rcases lo v k h3 hk with ⟨s1, s2⟩ | ⟨s1, s2⟩
      · rcases lo v l g3 hl with ⟨t1, t2⟩ | ⟨t1, t2⟩
        · have par : k % 2 = l % 2 := by omega
          refine np_a hr hX hk hl par ?_
          rcases q2 with s2 | s2 <;> rcases p2 with t2 | t2
          · exact Or.inl (s2.symm.trans t2)
          · exact Or.inr (Or.inl (s2.symm.trans t2))
          · exact Or.inr (Or.inr (Or.inl (s2.symm.trans t2)))
          · exact Or.inr (Or.inr (Or.inr (s2.symm.trans t2)))
        · omega
      · rcases lo v l g3 hl with ⟨t1, t2⟩ | ⟨t1, t2⟩
        · omega
        · rcases q2 with q2 | q2 <;> rcases s2 with s2 | s2
          · exact absurd (q2.trans s2.symm) h1
          · exact np_b hr4 hX hk hl (by rw [← q2]; exact p2) (by rw [← s2]; exact t2)
          · exact np_b hr4 hX hk hl (by rw [← s2]; exact t2) (by rw [← q2]; exact p2)
          · exact absurd (q2.trans s2.symm) h1
/-- the other way round: its pairs are the pairs of the first -/
theorem sw_tri {a b r : Nat} {X : Nat → Nat} (hr : r % 2 = 0) (hr4 : 4 ≤ r) (hX0 : X r = X 0) : ∀ k u v, k < r → prA (tri b a X) k u v → ∃ l, l < r ∧ prA (tri a b X) l u v := by
  intro k u v hk hpr
  obtain ⟨h1, h2, h3⟩ := hpr
  dsimp only [tri] at h2 h3
  have e1 := ab_or b a k
  have key : ∀ l, l < r → (u = ab a b l ∨ u = X l ∨ u = X (l + 1)) → (v = ab a b l ∨ v = X l ∨ v = X (l + 1)) → ∃ l, l < r ∧ prA (tri a b X) l u v := fun l hl g2 g3 => ⟨l, hl, h1, g2, g3⟩
  have lo : ∃ l, l < r ∧ ab a b l = ab b a k ∧ (X l = X k ∨ X (l + 1) = X k) := by
    by_cases h0 : k = 0
    · subst h0
      refine ⟨r - 1, by omega, ?_, Or.inr (by rw [show r - 1 + 1 = r by omega, hX0])⟩
      have := ab_or a b (r - 1)
      omega
    · refine ⟨k - 1, by omega, ?_, Or.inr (by rw [show k - 1 + 1 = k by omega])⟩
      have := ab_or a b (k - 1)
      omega
  have hi : ∃ l, l < r ∧ ab a b l = ab b a k ∧ (X l = X (k + 1) ∨ X (l + 1) = X (k + 1)) := by
    by_cases h0 : k + 1 = r
    · refine ⟨0, by omega, ?_, Or.inl (by rw [h0, hX0])⟩
      have := ab_or a b 0
      omega
    · refine ⟨k + 1, by omega, ?_, Or.inl rfl⟩
      have := ab_or a b (k + 1)
      omega
  obtain ⟨l1, p1, p2, p3⟩ := lo
  obtain ⟨l2, q1, q2, q3⟩ := hi
  rcases h2 with h2 | h2 | h2 <;> rcases h3 with h3 | h3 | h3
  · omega
  · exact key l1 p1 (by omega) (by omega)
  · exact key l2 q1 (by omega) (by omega)
  · exact key l1 p1 (by omega) (by omega)
  · omega
  · exact key k hk (by omega) (by omega)
  · exact key l2 q1 (by omega) (by omega)
  · exact key k hk (by omega) (by omega)
  · omega
/-- what a walk that came back is -/
def Cyc (hp : amH) (a b x r : Nat) : Prop := 1 ≤ r ∧ r ≤ 15 ∧ (∀ k, k < r → tT hp (wS hp a b x k) (ab a b k) = (wS hp a b x (k + 1) : Int)) ∧ wS hp a b x r = x ∧ (∀ k, 0 < k → k < r → ¬ wS hp a b x k = x)
theorem cy_in {hp : amH} {a b x r : Nat} (hV : Vf (rN hp 67)) (ha : (a : Int) < rN hp 67 0) (hb : (b : Int) < rN hp 67 0) (hab : ¬ a = b) (hx : (x : Int) < rN hp 67 0) (hxa : ¬ x = a) (hxb : ¬ x = b) (hxc : ¬ tT hp a b = (x : Int)) (h : Cyc hp a b x r) (k : Nat) (hk : k ≤ r) : (wS hp a b x k : Int) < rN hp 67 0 ∧ ¬ wS hp a b x k = a ∧ ¬ wS hp a b x k = b ∧ ¬ tT hp a b = (wS hp a b x k : Int) := by
  have h15 := hV.2.1
  induction k with
  | zero => exact ⟨hx, hxa, hxb, hxc⟩
  | succ k ih =>
    obtain ⟨i1, i2, i3, i4⟩ := ih (by omega)
    have st := h.2.2.1 k (by omega)
    have e := ab_or a b k
    obtain ⟨t1, t2, t3, t4, t5, t6, t7, t8, t9, t10, t11⟩ := Vf_t hV (by omega) (by omega) st
    generalize wS hp a b x k = y at *
    generalize wS hp a b x (k + 1) = z at *
    refine ⟨t3, fun q => ?_, fun q => ?_, fun q => ?_⟩
    · subst q
      rcases e with ⟨-, e⟩ | ⟨-, e⟩
      · rw [e] at t6
        exact t6 rfl
      · rw [e] at t11
        have s := Vf_sym hV (a := z) (b := b) (by omega) (by omega)
        omega
    · subst q
      rcases e with ⟨-, e⟩ | ⟨-, e⟩
      · rw [e] at t9
        omega
      · rw [e] at t6
        exact t6 rfl
    · obtain ⟨s1, s2, s3, s4, s5, s6, s7, s8, s9, s10, s11⟩ := Vf_t hV (by omega) (by omega) q
      rcases e with ⟨-, e⟩ | ⟨-, e⟩ <;> rw [e] at t11 t9 <;> omega
theorem cy_back {hp : amH} {a b x r : Nat} (hV : Vf (rN hp 67)) (ha : (a : Int) < rN hp 67 0) (hb : (b : Int) < rN hp 67 0) (hab : ¬ a = b) (hx : (x : Int) < rN hp 67 0) (hxa : ¬ x = a) (hxb : ¬ x = b) (hxc : ¬ tT hp a b = (x : Int)) (h : Cyc hp a b x r) (k : Nat) (hk : k < r) : tT hp (wS hp a b x (k + 1)) (ab a b k) = (wS hp a b x k : Int) ∧ ¬ wS hp a b x (k + 1) = wS hp a b x k ∧ tT hp (wS hp a b x k) (wS hp a b x (k + 1)) = (ab a b k : Int) := by
  have h15 := hV.2.1
  have i1 := cy_in hV ha hb hab hx hxa hxb hxc h k (by omega)
  have e := ab_or a b k
  obtain ⟨t1, t2, t3, t4, t5, t6, t7, t8, t9, t10, t11⟩ := Vf_t hV (by omega) (by omega) (h.2.2.1 k hk)
  exact ⟨t11, fun q => t5 q.symm, t8⟩
theorem cy_odd {hp : amH} {a b x r : Nat} (hV : Vf (rN hp 67)) (ha : (a : Int) < rN hp 67 0) (hb : (b : Int) < rN hp 67 0) (hab : ¬ a = b) (hx : (x : Int) < rN hp 67 0) (hxa : ¬ x = a) (hxb : ¬ x = b) (hxc : ¬ tT hp a b = (x : Int)) (h : Cyc hp a b x r) : ∀ (d i : Nat), i + 2 * d + 1 ≤ r → ¬ wS hp a b x i = wS hp a b x (i + 2 * d + 1) := by
  have h15 := hV.2.1
  intro d
  induction d with
  | zero =>
    intro i hi e
    have := (cy_back hV ha hb hab hx hxa hxb hxc h i (by omega)).2.1
    exact this e.symm
  | succ d ih =>
    intro i hi e
    refine ih (i + 1) (by omega) ?_
    have s1 := h.2.2.1 i (by omega)
    have s2 := (cy_back hV ha hb hab hx hxa hxb hxc h (i + 2 * (d + 1)) (by omega)).1
    have e1 := ab_or a b i
    have e2 := ab_or a b (i + 2 * (d + 1))
    have e3 : ab a b (i + 2 * (d + 1)) = ab a b i := by omega
    rw [e3, ← e, s1] at s2
    rw [show i + 1 + 2 * d + 1 = i + 2 * (d + 1) by omega]
    omega
theorem cy_ev {hp : amH} {a b x r : Nat} (hV : Vf (rN hp 67)) (ha : (a : Int) < rN hp 67 0) (hb : (b : Int) < rN hp 67 0) (hab : ¬ a = b) (hx : (x : Int) < rN hp 67 0) (hxa : ¬ x = a) (hxb : ¬ x = b) (hxc : ¬ tT hp a b = (x : Int)) (h : Cyc hp a b x r) : ∀ (i d : Nat), 0 < d → i + 2 * d < r → ¬ wS hp a b x i = wS hp a b x (i + 2 * d) := by
  intro i
  induction i with
  | zero =>
    intro d hd hi e
    rw [Nat.zero_add] at e hi
    exact h.2.2.2.2 (2 * d) (by omega) hi e.symm
  | succ i ih =>
    intro d hd hi e
    refine ih d hd (by omega) ?_
    have s1 := (cy_back hV ha hb hab hx hxa hxb hxc h i (by omega)).1
    have s2 := (cy_back hV ha hb hab hx hxa hxb hxc h (i + 2 * d) (by omega)).1
    have e1 := ab_or a b i
    have e2 := ab_or a b (i + 2 * d)
    have e3 : ab a b (i + 2 * d) = ab a b i := by omega
    rw [show i + 2 * d + 1 = i + 1 + 2 * d by omega, ← e, e3, s1] at s2
    omega
theorem cy_r {hp : amH} {a b x r : Nat} (hV : Vf (rN hp 67)) (ha : (a : Int) < rN hp 67 0) (hb : (b : Int) < rN hp 67 0) (hab : ¬ a = b) (hx : (x : Int) < rN hp 67 0) (hxa : ¬ x = a) (hxb : ¬ x = b) (hxc : ¬ tT hp a b = (x : Int)) (h : Cyc hp a b x r) : r % 2 = 0 ∧ 4 ≤ r := by
  have hr1 := h.1
  have hend := h.2.2.2.1
  have ev : r % 2 = 0 := by
    rcases Nat.mod_two_eq_zero_or_one r with z | z
    · exact z
    · have := cy_odd hV ha hb hab hx hxa hxb hxc h (r / 2) 0 (by omega)
      rw [show 0 + 2 * (r / 2) + 1 = r by omega, hend] at this
      exact absurd rfl this
  refine ⟨ev, ?_⟩
  rcases Nat.lt_or_ge r 4 with z | z
  · have r2 : r = 2 := by omega
    have b0 := (cy_back hV ha hb hab hx hxa hxb hxc h 0 (by omega)).2.2
    have b1 := (cy_back hV ha hb hab hx hxa hxb hxc h 1 (by omega)).2.2
    have e0 := ab_or a b 0
    have e1 := ab_or a b 1
    have w2 : wS hp a b x 2 = x := by rw [← r2]; exact hend
    have w0 : wS hp a b x 0 = x := rfl
    have h15 := hV.2.1
    have i1 := (cy_in hV ha hb hab hx hxa hxb hxc h 1 (by omega)).1
    rw [show (0 : Nat) + 1 = 1 from rfl, w0] at b0
    rw [show (1 : Nat) + 1 = 2 from rfl, w2] at b1
    have s := Vf_sym hV (a := x) (b := wS hp a b x 1) (by omega) (by omega)
    omega
  · exact z
theorem cy_X {hp : amH} {a b x r : Nat} (hV : Vf (rN hp 67)) (ha : (a : Int) < rN hp 67 0) (hb : (b : Int) < rN hp 67 0) (hab : ¬ a = b) (hx : (x : Int) < rN hp 67 0) (hxa : ¬ x = a) (hxb : ¬ x = b) (hxc : ¬ tT hp a b = (x : Int)) (h : Cyc hp a b x r) : ∀ i j, i ≤ r → j ≤ r → wS hp a b x i = wS hp a b x j → i = j ∨ (i = 0 ∧ j = r) ∨ (i = r ∧ j = 0) := by
  have hr := cy_r hV ha hb hab hx hxa hxb hxc h
  have hend := h.2.2.2.1
  have key : ∀ i j, i < j → j ≤ r → wS hp a b x i = wS hp a b x j → i = 0 ∧ j = r := by
    intro i j hij hj e
    rcases Nat.mod_two_eq_zero_or_one (j - i) with z | z
    · by_cases hjr : j = r
      · by_cases hi : i = 0
        · exact ⟨hi, hjr⟩
        · exfalso
          rw [hjr, hend] at e
          exact h.2.2.2.2 i (by omega) (by omega) e
      · have := cy_ev hV ha hb hab hx hxa hxb hxc h i ((j - i) / 2) (by omega) (by omega)
        rw [show i + 2 * ((j - i) / 2) = j by omega] at this
        exact absurd e this
    · have := cy_odd hV ha hb hab hx hxa hxb hxc h ((j - i) / 2) i (by omega)
      rw [show i + 2 * ((j - i) / 2) + 1 = j by omega] at this
      exact absurd e this
  intro i j hi hj e
  rcases Nat.lt_trichotomy i j with z | z | z
  · exact Or.inr (Or.inl (key i j z hj e))
  · exact Or.inl z
  · have := key j i z hi e.symm
    exact Or.inr (Or.inr ⟨this.2, this.1⟩)
theorem cy_Trs {hp : amH} {a b x r : Nat} (hV : Vf (rN hp 67)) (ha : (a : Int) < rN hp 67 0) (hb : (b : Int) < rN hp 67 0) (hab : ¬ a = b) (hx : (x : Int) < rN hp 67 0) (hxa : ¬ x = a) (hxb : ¬ x = b) (hxc : ¬ tT hp a b = (x : Int)) (h : Cyc hp a b x r) : Trs (tT hp) (rN hp 67 0) r (tri a b (wS hp a b x)) := by
  have h15 := hV.2.1
  have hr := cy_r hV ha hb hab hx hxa hxb hxc h
  have hX := cy_X hV ha hb hab hx hxa hxb hxc h
  have hin := cy_in hV ha hb hab hx hxa hxb hxc h
  refine ⟨fun k hk => ?_, fun k u v hk hpr => ?_, np_tri hab hr.1 hr.2 (fun k hk => (hin k hk).2.1) (fun k hk => (hin k hk).2.2.1) hX⟩
  · have e := ab_or a b k
    have i0 := hin k (by omega)
    have i1 := hin (k + 1) (by omega)
    have bk := (cy_back hV ha hb hab hx hxa hxb hxc h k hk).2.1
    dsimp only [tri]
    refine ⟨?_, fun q => bk q.symm, ?_, ?_, i0.1, i1.1⟩ <;> omega
  · obtain ⟨h1, h2, h3⟩ := hpr
    dsimp only [tri] at h2 h3 ⊢
    have st := h.2.2.1 k hk
    have e := ab_or a b k
    have i0 := hin k (by omega)
    obtain ⟨t1, t2, t3, t4, t5, t6, t7, t8, t9, t10, t11⟩ := Vf_t hV (by omega) (by omega) (h.2.2.1 k hk)
    rcases h2 with rfl | rfl | rfl <;> rcases h3 with rfl | rfl | rfl <;> first | exact absurd rfl h1 | omega
theorem cy_Sws {hp : amH} {a b x r : Nat} (hV : Vf (rN hp 67)) (ha : (a : Int) < rN hp 67 0) (hb : (b : Int) < rN hp 67 0) (hab : ¬ a = b) (hx : (x : Int) < rN hp 67 0) (hxa : ¬ x = a) (hxb : ¬ x = b) (hxc : ¬ tT hp a b = (x : Int)) (h : Cyc hp a b x r) : Sws (rN hp 67 0) r (tri a b (wS hp a b x)) (tri b a (wS hp a b x)) := by
  have hr := cy_r hV ha hb hab hx hxa hxb hxc h
  have hX := cy_X hV ha hb hab hx hxa hxb hxc h
  have hin := cy_in hV ha hb hab hx hxa hxb hxc h
  refine ⟨fun k hk => ?_, sw_tri hr.1 hr.2 h.2.2.2.1, np_tri (fun q => hab q.symm) hr.1 hr.2 (fun k hk => (hin k hk).2.2.1) (fun k hk => (hin k hk).2.1) hX⟩
  have e := ab_or b a k
  have i0 := hin k (by omega)
  have i1 := hin (k + 1) (by omega)
  have bk := (cy_back hV ha hb hab hx hxa hxb hxc h k hk).2.1
  dsimp only [tri]
  refine ⟨?_, fun q => bk q.symm, ?_, ?_, i0.1, i1.1⟩ <;> omega
