/-! ##### 19.m.079.38b ##### -/
section
/-! ===== a quadrilateral's six points, switched (pure) ===== -/
theorem mN_m3 {V : Nat} {T : sT} (hT : sOk V T) {t u v w : Nat} (ht : t < (trL T 225).length) (a : onL T t u) (b : onL T t v) (c : onL T t w) (h1 : ¬ u = v) (h2 : ¬ u = w) (h3 : ¬ v = w) : mN T t = m3 u v w := by
  obtain ⟨x, y, z, l1, l2, l3, e1, e2, e3⟩ := on_pts hT ht
  have a := (e3 u).mp a
  have b := (e3 v).mp b
  have c := (e3 w).mp c
  apply Nat.eq_of_testBit_eq
  intro q
  rw [m3_test]
  have q1 := e3 q
  unfold onL at q1
  rw [Bool.eq_iff_iff, q1, decide_eq_true_iff]
  omega
abbrev sxP (p a b c d e : Nat) : Prop := (¬ p = a ∧ ¬ p = b ∧ ¬ p = c ∧ ¬ p = d ∧ ¬ p = e) ∧ (¬ a = b ∧ ¬ a = c ∧ ¬ a = d ∧ ¬ a = e) ∧ (¬ b = c ∧ ¬ b = d ∧ ¬ b = e) ∧ (¬ c = d ∧ ¬ c = e) ∧ ¬ d = e
theorem qd_sx {V : Nat} {T : sT} (hT : sOk V T) {i j k l : Nat} (h : X4 T i j k l) : ∃ p a b c d e : Nat, (p < V ∧ a < V ∧ b < V ∧ c < V ∧ d < V ∧ e < V) ∧ sxP p a b c d e ∧ (mN T i = m3 p a b ∧ mN T j = m3 p c d ∧ mN T k = m3 a c e ∧ mN T l = m3 b d e) ∧ T p a = (b : Int) ∧ T p c = (d : Int) ∧ T a c = (e : Int) ∧ T b d = (e : Int) := by
  obtain ⟨p, a, b, c, d, e, ⟨p1, a1, b1⟩, ⟨p2, c1, d1⟩, ⟨a2, c2, e1⟩, ⟨b2, d2, e2⟩, t1, t2, t3, t4, nbc⟩ := X4_pts hT h
  obtain ⟨⟨bi, bj, bk, bl⟩, ⟨n12, n13, n14, n23, n24, n34⟩, -⟩ := id h
  obtain ⟨b', eb, -, lp, la, lb, q1, q2, q3, -⟩ := li_s hT (u := p) (v := a) (by omega)
  obtain ⟨d', ed, -, -, lc, ld, r1, r2, r3, -⟩ := li_s hT (u := p) (v := c) (by omega)
  obtain ⟨e', ee, -, -, -, le, s1, s2, s3, -⟩ := li_s hT (u := a) (v := c) (by omega)
  obtain ⟨f', ef, -, -, -, -, v1, v2, v3, -⟩ := li_s hT (u := b) (v := d) (by omega)
  have hb : b' = b := by omega
  have hd : d' = d := by omega
  have he : e' = e := by omega
  have hf : f' = e := by omega
  subst hb
  subst hd
  subst he
  subst hf
  have nad : ¬ a = d' := fun z => by rw [← z] at d1; exact n12 (on_1 hT bi bj q1 p1 a1 p2 d1)
  have npe : ¬ p = f' := fun z => by rw [← z] at e1; exact n13 (on_1 hT bi bk q1 p1 a1 e1 a2)
  exact ⟨p, a, b', c, d', f', ⟨lp, la, lb, lc, ld, le⟩, ⟨⟨q1, q2, r1, r2, npe⟩, ⟨q3, s1, nad, s2⟩, ⟨nbc, v1, v2⟩, ⟨r3, s3⟩, v3⟩, ⟨mN_m3 hT bi p1 a1 b1 q1 q2 q3, mN_m3 hT bj p2 c1 d1 r1 r2 r3, mN_m3 hT bk a2 c2 e1 s1 s2 s3, mN_m3 hT bl b2 d2 e2 v1 v2 v3⟩, t1, t2, t3, t4⟩
abbrev ql (T : sT) (n : Nat) : Nat := (nmT T (qR T n)).toNat
theorem qd_X {V : Nat} {T : sT} (hT : sOk V T) {n : Nat} (hn : n < 42875) (h : qdB T n = true) : X4 T (n / 1225) (n / 35 % 35) (n % 35) (ql T n) ∧ (n / 1225 < n / 35 % 35 ∧ n / 35 % 35 < n % 35 ∧ n % 35 < ql T n) ∧ nmT T (qR T n) = (ql T n : Int) ∧ qR T n = mN T (ql T n) := by
  have e : n = n / 1225 * 1225 + (n / 35 % 35 * 35 + n % 35) := by
    have := Nat.div_div_eq_div_mul n 35 35
    omega
  rcases nm_lt (T := T) (qR T n) with z | ⟨t, t1, t2⟩
  · have h2 := of_decide_eq_true h
    omega
  · have el : ql T n = t := by show (nmT T (qR T n)).toNat = t; rw [t2, Int.toNat_natCast]
    rw [el]
    have hB : qdB T (n / 1225 * 1225 + (n / 35 % 35 * 35 + n % 35)) = true ∧ nmT T (qR T (n / 1225 * 1225 + (n / 35 % 35 * 35 + n % 35))) = (t : Int) := by rw [← e]; exact ⟨h, t2⟩
    obtain ⟨g1, g2⟩ := (qdB_X4 hT (l := t) (i := n / 1225) (j := n / 35 % 35) (k := n % 35) (by omega) (by omega) (by omega)).mp hB
    exact ⟨g1, g2, t2, (nm_inv t2).2.symm⟩
/-- a quadrilateral's points, its triples, and those that the switch brings -/
def qU (T : sT) (n : Nat) : Nat := mN T (n / 1225) ||| mN T (n / 35 % 35) ||| qR T n
def qG (T : sT) (n : Nat) : List Nat := [mN T (n / 1225), mN T (n / 35 % 35), mN T (n % 35), mN T (ql T n)]
def qC (T : sT) (n : Nat) : List Nat := [ndif (qU T n) (mN T (n / 1225)), ndif (qU T n) (mN T (n / 35 % 35)), ndif (qU T n) (mN T (n % 35)), ndif (qU T n) (mN T (ql T n))]
def swQ (T : sT) (n : Nat) : sT := uPs (uTs T (qG T n)) (qC T n)
theorem nd_3 {U x y z a b c : Nat} (hU : ∀ u, U.testBit u = true ↔ ((u = x ∨ u = y ∨ u = z) ∨ (u = a ∨ u = b ∨ u = c))) (h1 : ¬ x = a ∧ ¬ x = b ∧ ¬ x = c) (h2 : ¬ y = a ∧ ¬ y = b ∧ ¬ y = c) (h3 : ¬ z = a ∧ ¬ z = b ∧ ¬ z = c) : ndif U (m3 x y z) = m3 a b c := by
  apply Nat.eq_of_testBit_eq
  intro u
  rw [nd_test, m3_test, m3_test, Bool.eq_iff_iff, Bool.and_eq_true, hU u, Bool.not_eq_true', decide_eq_false_iff_not, decide_eq_true_iff]
  refine ⟨fun h => h.1.resolve_left h.2, fun h => ⟨Or.inr h, fun g => ?_⟩⟩
  rcases g with g | g | g <;> rcases h with h | h | h
  · exact h1.1 (g.symm.trans h)
  · exact h1.2.1 (g.symm.trans h)
  · exact h1.2.2 (g.symm.trans h)
  · exact h2.1 (g.symm.trans h)
  · exact h2.2.1 (g.symm.trans h)
  · exact h2.2.2 (g.symm.trans h)
  · exact h3.1 (g.symm.trans h)
  · exact h3.2.1 (g.symm.trans h)
  · exact h3.2.2 (g.symm.trans h)
/-- all of it by the six points -/
theorem qd_all {V : Nat} {T : sT} (hT : sOk V T) {n : Nat} (hn : n < 42875) (h : qdB T n = true) : ∃ p a b c d e : Nat, (p < V ∧ a < V ∧ b < V ∧ c < V ∧ d < V ∧ e < V) ∧ sxP p a b c d e ∧ qG T n = [m3 p a b, m3 p c d, m3 a c e, m3 b d e] ∧ qC T n = [m3 c d e, m3 a b e, m3 p b d, m3 p a c] ∧ (∀ u, (qU T n).testBit u = true ↔ (u = p ∨ u = a ∨ u = b ∨ u = c ∨ u = d ∨ u = e)) ∧ T p a = (b : Int) ∧ T p c = (d : Int) ∧ T a c = (e : Int) ∧ T b d = (e : Int) := by
  obtain ⟨hX, -, -, hR⟩ := qd_X hT hn h
  obtain ⟨p, a, b, c, d, e, hlt, h6, ⟨m1, m2, m3', m4⟩, ht⟩ := qd_sx hT hX
  have hU : ∀ u, (qU T n).testBit u = true ↔ (u = p ∨ u = a ∨ u = b ∨ u = c ∨ u = d ∨ u = e) := fun u => by
    unfold qU
    rw [hR, m1, m2, m4, Nat.testBit_or, Nat.testBit_or, m3_test, m3_test, m3_test]
    simp only [Bool.or_eq_true, decide_eq_true_eq]
    omega
  obtain ⟨⟨k1, k2, k3, k4, k5⟩, ⟨k6, k7, k8, k9⟩, ⟨k10, k11, k12⟩, ⟨k13, k14⟩, k15⟩ := id h6
  refine ⟨p, a, b, c, d, e, hlt, h6, ?_, ?_, hU, ht⟩
  · unfold qG
    rw [m1, m2, m3', m4]
  · unfold qC
    have n1 := nd_3 (U := qU T n) (x := p) (y := a) (z := b) (a := c) (b := d) (c := e) (fun u => (hU u).trans ⟨fun h => by
      rcases h with h | h | h | h | h | h
      · exact Or.inl (Or.inl h)
      · exact Or.inl (Or.inr (Or.inl h))
      · exact Or.inl (Or.inr (Or.inr h))
      · exact Or.inr (Or.inl h)
      · exact Or.inr (Or.inr (Or.inl h))
      · exact Or.inr (Or.inr (Or.inr h))
      , fun h => by
      rcases h with (h | h | h) | (h | h | h)
      · exact Or.inl h
      · exact Or.inr (Or.inl h)
      · exact Or.inr (Or.inr (Or.inl h))
      · exact Or.inr (Or.inr (Or.inr (Or.inl h)))
      · exact Or.inr (Or.inr (Or.inr (Or.inr (Or.inl h))))
      · exact Or.inr (Or.inr (Or.inr (Or.inr (Or.inr h))))
      ⟩) ⟨k3, k4, k5⟩ ⟨k7, k8, k9⟩ ⟨k10, k11, k12⟩
    have n2 := nd_3 (U := qU T n) (x := p) (y := c) (z := d) (a := a) (b := b) (c := e) (fun u => (hU u).trans ⟨fun h => by
      rcases h with h | h | h | h | h | h
      · exact Or.inl (Or.inl h)
      · exact Or.inr (Or.inl h)
      · exact Or.inr (Or.inr (Or.inl h))
      · exact Or.inl (Or.inr (Or.inl h))
      · exact Or.inl (Or.inr (Or.inr h))
      · exact Or.inr (Or.inr (Or.inr h))
      , fun h => by
      rcases h with (h | h | h) | (h | h | h)
      · exact Or.inl h
      · exact Or.inr (Or.inr (Or.inr (Or.inl h)))
      · exact Or.inr (Or.inr (Or.inr (Or.inr (Or.inl h))))
      · exact Or.inr (Or.inl h)
      · exact Or.inr (Or.inr (Or.inl h))
      · exact Or.inr (Or.inr (Or.inr (Or.inr (Or.inr h))))
      ⟩) ⟨k1, k2, k5⟩ ⟨(fun z => k7 z.symm), (fun z => k10 z.symm), k14⟩ ⟨(fun z => k8 z.symm), (fun z => k11 z.symm), k15⟩
    have n3 := nd_3 (U := qU T n) (x := a) (y := c) (z := e) (a := p) (b := b) (c := d) (fun u => (hU u).trans ⟨fun h => by
      rcases h with h | h | h | h | h | h
      · exact Or.inr (Or.inl h)
      · exact Or.inl (Or.inl h)
      · exact Or.inr (Or.inr (Or.inl h))
      · exact Or.inl (Or.inr (Or.inl h))
      · exact Or.inr (Or.inr (Or.inr h))
      · exact Or.inl (Or.inr (Or.inr h))
      , fun h => by
      rcases h with (h | h | h) | (h | h | h)
      · exact Or.inr (Or.inl h)
      · exact Or.inr (Or.inr (Or.inr (Or.inl h)))
      · exact Or.inr (Or.inr (Or.inr (Or.inr (Or.inr h))))
      · exact Or.inl h
      · exact Or.inr (Or.inr (Or.inl h))
      · exact Or.inr (Or.inr (Or.inr (Or.inr (Or.inl h))))
      ⟩) ⟨(fun z => k1 z.symm), k6, k8⟩ ⟨(fun z => k3 z.symm), (fun z => k10 z.symm), k13⟩ ⟨(fun z => k5 z.symm), (fun z => k12 z.symm), (fun z => k15 z.symm)⟩
    have n4 := nd_3 (U := qU T n) (x := b) (y := d) (z := e) (a := p) (b := a) (c := c) (fun u => (hU u).trans ⟨fun h => by
      rcases h with h | h | h | h | h | h
      · exact Or.inr (Or.inl h)
      · exact Or.inr (Or.inr (Or.inl h))
      · exact Or.inl (Or.inl h)
      · exact Or.inr (Or.inr (Or.inr h))
      · exact Or.inl (Or.inr (Or.inl h))
      · exact Or.inl (Or.inr (Or.inr h))
      , fun h => by
      rcases h with (h | h | h) | (h | h | h)
      · exact Or.inr (Or.inr (Or.inl h))
      · exact Or.inr (Or.inr (Or.inr (Or.inr (Or.inl h))))
      · exact Or.inr (Or.inr (Or.inr (Or.inr (Or.inr h))))
      · exact Or.inl h
      · exact Or.inr (Or.inl h)
      · exact Or.inr (Or.inr (Or.inr (Or.inl h)))
      ⟩) ⟨(fun z => k2 z.symm), (fun z => k6 z.symm), k10⟩ ⟨(fun z => k4 z.symm), (fun z => k8 z.symm), (fun z => k13 z.symm)⟩ ⟨(fun z => k5 z.symm), (fun z => k9 z.symm), (fun z => k14 z.symm)⟩
    rw [m1, m2, m3', m4, n1, n2, n3, n4]
theorem triM_m {V : Nat} {T : sT} (hT : sOk V T) {t : Nat} (ht : t < (trL T 225).length) : triM T (mN T t) := by
  obtain ⟨x, y, z, l1, l2, l3, e1, e2, e3⟩ := on_pts hT ht
  exact ⟨x, y, z, l1, l2, e1, e2⟩
theorem sh_m {V : Nat} {T : sT} (hT : sOk V T) {s t : Nat} (hs : s < (trL T 225).length) (ht : t < (trL T 225).length) (hne : ¬ s = t) : sh1 (mN T s) (mN T t) := fun u v h g => hne (on_1 hT hs ht h.1 h.2.1 h.2.2 g.2.1 g.2.2)
theorem freM_of {V c d e : Nat} {T : sT} (hT : sOk V T) (hc : c < V) (hd : d < V) (he : e < V) (h1 : ¬ c = d) (h2 : ¬ d = e) (h3 : ¬ c = e) (hf : ∀ u v, sPr c d e u v → T u v = -1) : freM V T (m3 c d e) := by
  obtain ⟨x, y, z, g1, g2, g3, -, -, g6, g7⟩ := srt h1 h2 h3
  obtain ⟨-, -, l3⟩ := g6 (fun i => i < V) hc hd he
  have q := fun u v (w : sPr x y z u v) => hf u v ⟨w.1, (g7 u).mpr w.2.1, (g7 v).mpr w.2.2⟩
  exact ⟨x, y, z, g1, g2, l3, g3, q x y ⟨by omega, by simp, by simp⟩, q y z ⟨by omega, by simp, by simp⟩, q x z ⟨by omega, by simp, by simp⟩⟩
theorem sh_3 {x y z a b c : Nat} (h : ∀ u v, sPr x y z u v → ¬ sPr a b c u v) : sh1 (m3 x y z) (m3 a b c) := fun u v g k => h u v (in2_3.mp g) (in2_3.mp k)
theorem sx_0 {p a b c d e u v : Nat} (g : sPr c d e u v) : sPr p a b u v ∨ sPr p c d u v ∨ sPr a c e u v ∨ sPr b d e u v := by
  obtain ⟨g0, g1, g2⟩ := g
  rcases g1 with h1 | h1 | h1 <;> rcases g2 with h2 | h2 | h2
  · exact absurd (h1.trans h2.symm) g0
  · exact Or.inr (Or.inl (⟨g0, Or.inr (Or.inl h1), Or.inr (Or.inr h2)⟩))
  · exact Or.inr (Or.inr (Or.inl (⟨g0, Or.inr (Or.inl h1), Or.inr (Or.inr h2)⟩)))
  · exact Or.inr (Or.inl (⟨g0, Or.inr (Or.inr h1), Or.inr (Or.inl h2)⟩))
  · exact absurd (h1.trans h2.symm) g0
  · exact Or.inr (Or.inr (Or.inr (⟨g0, Or.inr (Or.inl h1), Or.inr (Or.inr h2)⟩)))
  · exact Or.inr (Or.inr (Or.inl (⟨g0, Or.inr (Or.inr h1), Or.inr (Or.inl h2)⟩)))
  · exact Or.inr (Or.inr (Or.inr (⟨g0, Or.inr (Or.inr h1), Or.inr (Or.inl h2)⟩)))
  · exact absurd (h1.trans h2.symm) g0
theorem sx_1 {p a b c d e u v : Nat} (g : sPr a b e u v) : sPr p a b u v ∨ sPr p c d u v ∨ sPr a c e u v ∨ sPr b d e u v := by
  obtain ⟨g0, g1, g2⟩ := g
  rcases g1 with h1 | h1 | h1 <;> rcases g2 with h2 | h2 | h2
  · exact absurd (h1.trans h2.symm) g0
  · exact Or.inl (⟨g0, Or.inr (Or.inl h1), Or.inr (Or.inr h2)⟩)
  · exact Or.inr (Or.inr (Or.inl (⟨g0, Or.inl h1, Or.inr (Or.inr h2)⟩)))
  · exact Or.inl (⟨g0, Or.inr (Or.inr h1), Or.inr (Or.inl h2)⟩)
  · exact absurd (h1.trans h2.symm) g0
  · exact Or.inr (Or.inr (Or.inr (⟨g0, Or.inl h1, Or.inr (Or.inr h2)⟩)))
  · exact Or.inr (Or.inr (Or.inl (⟨g0, Or.inr (Or.inr h1), Or.inl h2⟩)))
  · exact Or.inr (Or.inr (Or.inr (⟨g0, Or.inr (Or.inr h1), Or.inl h2⟩)))
  · exact absurd (h1.trans h2.symm) g0
theorem sx_2 {p a b c d e u v : Nat} (g : sPr p b d u v) : sPr p a b u v ∨ sPr p c d u v ∨ sPr a c e u v ∨ sPr b d e u v := by
  obtain ⟨g0, g1, g2⟩ := g
  rcases g1 with h1 | h1 | h1 <;> rcases g2 with h2 | h2 | h2
  · exact absurd (h1.trans h2.symm) g0
  · exact Or.inl (⟨g0, Or.inl h1, Or.inr (Or.inr h2)⟩)
  · exact Or.inr (Or.inl (⟨g0, Or.inl h1, Or.inr (Or.inr h2)⟩))
  · exact Or.inl (⟨g0, Or.inr (Or.inr h1), Or.inl h2⟩)
  · exact absurd (h1.trans h2.symm) g0
  · exact Or.inr (Or.inr (Or.inr (⟨g0, Or.inl h1, Or.inr (Or.inl h2)⟩)))
  · exact Or.inr (Or.inl (⟨g0, Or.inr (Or.inr h1), Or.inl h2⟩))
  · exact Or.inr (Or.inr (Or.inr (⟨g0, Or.inr (Or.inl h1), Or.inl h2⟩)))
  · exact absurd (h1.trans h2.symm) g0
theorem sx_3 {p a b c d e u v : Nat} (g : sPr p a c u v) : sPr p a b u v ∨ sPr p c d u v ∨ sPr a c e u v ∨ sPr b d e u v := by
  obtain ⟨g0, g1, g2⟩ := g
  rcases g1 with h1 | h1 | h1 <;> rcases g2 with h2 | h2 | h2
  · exact absurd (h1.trans h2.symm) g0
  · exact Or.inl (⟨g0, Or.inl h1, Or.inr (Or.inl h2)⟩)
  · exact Or.inr (Or.inl (⟨g0, Or.inl h1, Or.inr (Or.inl h2)⟩))
  · exact Or.inl (⟨g0, Or.inr (Or.inl h1), Or.inl h2⟩)
  · exact absurd (h1.trans h2.symm) g0
  · exact Or.inr (Or.inr (Or.inl (⟨g0, Or.inl h1, Or.inr (Or.inl h2)⟩)))
  · exact Or.inr (Or.inl (⟨g0, Or.inr (Or.inl h1), Or.inl h2⟩))
  · exact Or.inr (Or.inr (Or.inl (⟨g0, Or.inr (Or.inl h1), Or.inl h2⟩)))
  · exact absurd (h1.trans h2.symm) g0
theorem sh_c {x y z a b c e : Nat} (h : ∀ w, (w = x ∨ w = y ∨ w = z) → (w = a ∨ w = b ∨ w = c) → w = e) : sh1 (m3 x y z) (m3 a b c) := sh_3 (fun u v g q => g.1 ((h u g.2.1 q.2.1).trans (h v g.2.2 q.2.2).symm))
/-- the switch can be made -/
theorem qd_ok {V : Nat} {T : sT} (hT : sOk V T) {n : Nat} (hn : n < 42875) (h : qdB T n = true) : tkOk T (qG T n) ∧ sOk V (uTs T (qG T n)) ∧ ptOk V (uTs T (qG T n)) (qC T n) ∧ sOk V (swQ T n) := by
  obtain ⟨hX, -, -, -⟩ := qd_X hT hn h
  obtain ⟨⟨bi, bj, bk, bl⟩, ⟨n12, n13, n14, n23, n24, n34⟩, -⟩ := id hX
  have h1 : tkOk T (qG T n) := tkOk_of (fun m hm => by
      unfold qG at hm
      simp only [List.mem_cons, List.not_mem_nil, or_false] at hm
      rcases hm with rfl | rfl | rfl | rfl
      · exact triM_m hT bi
      · exact triM_m hT bj
      · exact triM_m hT bk
      · exact triM_m hT bl) (by
      unfold qG
      refine ⟨fun b hb => ?_, fun b hb => ?_, fun b hb => ?_, fun b hb => absurd hb (by simp), trivial⟩
      · simp only [List.mem_cons, List.not_mem_nil, or_false] at hb
        rcases hb with rfl | rfl | rfl
        · exact sh_m hT bi bj n12
        · exact sh_m hT bi bk n13
        · exact sh_m hT bi bl n14
      · simp only [List.mem_cons, List.not_mem_nil, or_false] at hb
        rcases hb with rfl | rfl
        · exact sh_m hT bj bk n23
        · exact sh_m hT bj bl n24
      · simp only [List.mem_cons, List.not_mem_nil, or_false] at hb
        rcases hb with rfl
        exact sh_m hT bk bl n34)
  have h2 := sOk_uTs hT h1
  have h3 : ptOk V (uTs T (qG T n)) (qC T n) := by
    obtain ⟨p, a, b, c, d, e, ⟨lp, la, lb, lc, ld, le⟩, ⟨⟨k1, k2, k3, k4, k5⟩, ⟨k6, k7, k8, k9⟩, ⟨k10, k11, k12⟩, ⟨k13, k14⟩, k15⟩, eG, eC, -⟩ := qd_all hT hn h
    rw [eC]
    have go : ∀ u v, sPr p a b u v ∨ sPr p c d u v ∨ sPr a c e u v ∨ sPr b d e u v → uTs T (qG T n) u v = -1 := fun u v g => by
      rw [eG]
      rcases g with g | g | g | g
      · exact uTs_in (m := m3 p a b) (by simp) (in2_3.mpr g)
      · exact uTs_in (m := m3 p c d) (by simp) (in2_3.mpr g)
      · exact uTs_in (m := m3 a c e) (by simp) (in2_3.mpr g)
      · exact uTs_in (m := m3 b d e) (by simp) (in2_3.mpr g)
    refine ptOk_of (fun m hm => ?_) ?_
    · simp only [List.mem_cons, List.not_mem_nil, or_false] at hm
      rcases hm with rfl | rfl | rfl | rfl
      · exact freM_of h2 lc ld le k13 k15 k14 (fun u v g => go u v (sx_0 g))
      · exact freM_of h2 la lb le k6 k12 k9 (fun u v g => go u v (sx_1 g))
      · exact freM_of h2 lp lb ld k2 k11 k4 (fun u v g => go u v (sx_2 g))
      · exact freM_of h2 lp la lc k1 k7 k3 (fun u v g => go u v (sx_3 g))
    · refine ⟨fun m hm => ?_, fun m hm => ?_, fun m hm => ?_, fun b hb => absurd hb (by simp), trivial⟩
      · simp only [List.mem_cons, List.not_mem_nil, or_false] at hm
        rcases hm with rfl | rfl | rfl
        · refine sh_c (e := e) (fun w g q => ?_)
          rcases g with g | g | g <;> rcases q with q | q | q
          · exact absurd (g.symm.trans q) (fun z => k7 z.symm)
          · exact absurd (g.symm.trans q) (fun z => k10 z.symm)
          · exact absurd (g.symm.trans q) k14
          · exact absurd (g.symm.trans q) (fun z => k8 z.symm)
          · exact absurd (g.symm.trans q) (fun z => k11 z.symm)
          · exact absurd (g.symm.trans q) k15
          · exact absurd (g.symm.trans q) (fun z => k9 z.symm)
          · exact absurd (g.symm.trans q) (fun z => k12 z.symm)
          · exact g
        · refine sh_c (e := d) (fun w g q => ?_)
          rcases g with g | g | g <;> rcases q with q | q | q
          · exact absurd (g.symm.trans q) (fun z => k3 z.symm)
          · exact absurd (g.symm.trans q) (fun z => k10 z.symm)
          · exact absurd (g.symm.trans q) k13
          · exact absurd (g.symm.trans q) (fun z => k4 z.symm)
          · exact absurd (g.symm.trans q) (fun z => k11 z.symm)
          · exact g
          · exact absurd (g.symm.trans q) (fun z => k5 z.symm)
          · exact absurd (g.symm.trans q) (fun z => k12 z.symm)
          · exact absurd (g.symm.trans q) (fun z => k15 z.symm)
        · refine sh_c (e := c) (fun w g q => ?_)
          rcases g with g | g | g <;> rcases q with q | q | q
          · exact absurd (g.symm.trans q) (fun z => k3 z.symm)
          · exact absurd (g.symm.trans q) (fun z => k7 z.symm)
          · exact g
          · exact absurd (g.symm.trans q) (fun z => k4 z.symm)
          · exact absurd (g.symm.trans q) (fun z => k8 z.symm)
          · exact absurd (g.symm.trans q) (fun z => k13 z.symm)
          · exact absurd (g.symm.trans q) (fun z => k5 z.symm)
          · exact absurd (g.symm.trans q) (fun z => k9 z.symm)
          · exact absurd (g.symm.trans q) (fun z => k14 z.symm)
      · simp only [List.mem_cons, List.not_mem_nil, or_false] at hm
        rcases hm with rfl | rfl
        · refine sh_c (e := b) (fun w g q => ?_)
          rcases g with g | g | g <;> rcases q with q | q | q
          · exact absurd (g.symm.trans q) (fun z => k1 z.symm)
          · exact absurd (g.symm.trans q) k6
          · exact absurd (g.symm.trans q) k8
          · exact absurd (g.symm.trans q) (fun z => k2 z.symm)
          · exact g
          · exact absurd (g.symm.trans q) k11
          · exact absurd (g.symm.trans q) (fun z => k5 z.symm)
          · exact absurd (g.symm.trans q) (fun z => k12 z.symm)
          · exact absurd (g.symm.trans q) (fun z => k15 z.symm)
        · refine sh_c (e := a) (fun w g q => ?_)
          rcases g with g | g | g <;> rcases q with q | q | q
          · exact absurd (g.symm.trans q) (fun z => k1 z.symm)
          · exact g
          · exact absurd (g.symm.trans q) k7
          · exact absurd (g.symm.trans q) (fun z => k2 z.symm)
          · exact absurd (g.symm.trans q) (fun z => k6 z.symm)
          · exact absurd (g.symm.trans q) k10
          · exact absurd (g.symm.trans q) (fun z => k5 z.symm)
          · exact absurd (g.symm.trans q) (fun z => k9 z.symm)
          · exact absurd (g.symm.trans q) (fun z => k14 z.symm)
      · simp only [List.mem_cons, List.not_mem_nil, or_false] at hm
        rcases hm with rfl
        refine sh_c (e := p) (fun w g q => ?_)
        rcases g with g | g | g <;> rcases q with q | q | q
        · exact g
        · exact absurd (g.symm.trans q) k1
        · exact absurd (g.symm.trans q) k3
        · exact absurd (g.symm.trans q) (fun z => k2 z.symm)
        · exact absurd (g.symm.trans q) (fun z => k6 z.symm)
        · exact absurd (g.symm.trans q) k10
        · exact absurd (g.symm.trans q) (fun z => k4 z.symm)
        · exact absurd (g.symm.trans q) (fun z => k8 z.symm)
        · exact absurd (g.symm.trans q) (fun z => k13 z.symm)
  exact ⟨h1, h2, h3, sOk_uPs h2 h3⟩
end
/-! ##### 19.m.080.38c ##### -/
section
/-! ===== how many quadrilaterals behind triples taken and put (pure) ===== -/
abbrev nQ (T : sT) : Nat := (fL (qdB T) 42875).length
/-- as Pa_sum, with what is said of the four triples -/
theorem Pa_sumG {V : Nat} {T : sT} (hT : sOk V T) (g : Nat → Nat → Nat → Nat → Bool) : s3 15 (fun p a c => iv (Pa T p a c ∧ g (li T p a) (li T p c) (li T a c) (li T (T p a).toNat (T p c).toNat) = true)) = s4 35 (fun i j k l => iv (X4 T i j k l ∧ g i j k l = true)) := by
  have hV := hT.2.1
  have l35 := trL_35 hT 225
  have a1 : ∀ p a c, iv (Pa T p a c ∧ g (li T p a) (li T p c) (li T a c) (li T (T p a).toNat (T p c).toNat) = true) = s4 35 (fun i j k l => iv ((Pa T p a c ∧ g i j k l = true) ∧ i = li T p a ∧ j = li T p c ∧ k = li T a c ∧ l = li T (T p a).toNat (T p c).toNat)) := by
    intro p a c
    by_cases h : Pa T p a c
    · obtain ⟨⟨x1, x2, x3, x4⟩, -⟩ := Pa_X4 hT h
      refine (s4_one (i0 := li T p a) (j0 := li T p c) (k0 := li T a c) (l0 := li T (T p a).toNat (T p c).toNat) (by omega) (by omega) (by omega) (by omega) (iv_eq ⟨fun z => z.1, fun z => ⟨z, rfl, rfl, rfl, rfl⟩⟩) (fun i j k l hn => iv_f (fun z => hn z.2))).symm
    · rw [iv_f (fun z => h z.1)]
      unfold s4
      exact (sm_none (fun i _ => s3_none (fun j k l _ _ _ => iv_f (fun z => h z.1.1)))).symm
  have a2 : ∀ i j k l, s3 15 (fun p a c => iv ((Pa T p a c ∧ g i j k l = true) ∧ i = li T p a ∧ j = li T p c ∧ k = li T a c ∧ l = li T (T p a).toNat (T p c).toNat)) = iv (X4 T i j k l ∧ g i j k l = true) := by
    intro i j k l
    by_cases h : X4 T i j k l
    · obtain ⟨p, a, b, c, d, e, ⟨p1, a1, b1⟩, ⟨p2, c1, d1⟩, ⟨a2, c2, e1⟩, ⟨b2, d2, e2⟩, t1, t2, t3, t4, nbc⟩ := X4_pts hT h
      obtain ⟨⟨bi, bj, bk, bl⟩, ⟨n12, n13, n14, n23, n24, n34⟩, -⟩ := id h
      have hP : Pa T p a c := ⟨by omega, by omega, by omega, by omega, by rw [t1, t2, Int.toNat_natCast, Int.toNat_natCast, t4, t3]⟩
      obtain ⟨b', eb, eb2, lp, la, -, q1, q2, q3, ci, -, i1, i2, i3⟩ := li_s hT hP.1
      obtain ⟨d', ed, ed2, -, lc, -, r1, r2, r3, cj, -, j1, j2, j3⟩ := li_s hT hP.2.1
      obtain ⟨e', ee, ee2, -, -, -, s1, s2, s3', ck, -, k1, k2, k3⟩ := li_s hT hP.2.2.1
      have hbd : ¬ T b d = -1 := by omega
      obtain ⟨f', ef, ef2, -, -, -, v1, v2, v3, cl, -, m1, m2, m3'⟩ := li_s hT hbd
      have ei : i = li T p a := on_1 hT bi ci q1 p1 a1 i1 i2
      have ej : j = li T p c := on_1 hT bj cj r1 p2 c1 j1 j2
      have ek : k = li T a c := on_1 hT bk ck s1 a2 c2 k1 k2
      have el : l = li T (T p a).toNat (T p c).toNat := by
        rw [t1, t2, Int.toNat_natCast, Int.toNat_natCast]
        exact on_1 hT bl cl v1 b2 d2 m1 m2
      refine s3_one (i0 := p) (j0 := a) (k0 := c) (by omega) (by omega) (by omega) (iv_eq ⟨fun z => ⟨h, z.1.2⟩, fun z => ⟨⟨hP, z.2⟩, ei, ej, ek, el⟩⟩) (fun p' a' c' _ _ _ hn => iv_f (fun z => hn ?_))
      obtain ⟨⟨w0, -⟩, w1, w2, w3, -⟩ := z
      obtain ⟨-, -, -, -, -, -, -, -, -, -, -, y1, y2, -⟩ := li_s hT w0.1
      obtain ⟨-, -, -, -, -, -, -, -, -, -, -, y3, y4, -⟩ := li_s hT w0.2.1
      obtain ⟨-, -, -, -, -, -, -, -, -, -, -, y5, y6, -⟩ := li_s hT w0.2.2.1
      rw [← w1] at y1 y2
      rw [← w2] at y3 y4
      rw [← w3] at y5 y6
      refine ⟨?_, ?_, ?_⟩
      · by_cases z : p' = p
        · exact z
        · exact absurd (on_1 hT bi bj z y1 p1 y3 p2) n12
      · by_cases z : a' = a
        · exact z
        · exact absurd (on_1 hT bi bk z y2 a1 y5 a2) n13
      · by_cases z : c' = c
        · exact z
        · exact absurd (on_1 hT bj bk z y4 c1 y6 c2) n23
    · rw [iv_f (fun z => h z.1)]
      refine s3_none (fun p a c _ _ _ => iv_f (fun z => h ?_))
      obtain ⟨⟨w0, -⟩, rfl, rfl, rfl, rfl⟩ := z
      exact Pa_X4 hT w0
  rw [s3_ext (fun p a c _ _ _ => a1 p a c), s3_s4]
  exact s4_ext (fun i j k l _ _ _ _ => a2 i j k l)
theorem nQ_24 {V : Nat} {T : sT} (hT : sOk V T) : 24 * nQ T = s3 15 (fun p a c => iv (Pa T p a c)) := by
  have a := qd_24 hT (fun _ => true)
  have c : s3 15 (fun p a c => iv (Pa T p a c ∧ true = true ∧ true = true ∧ true = true ∧ true = true)) = s3 15 (fun p a c => iv (Pa T p a c)) := s3_ext (fun p a c _ _ _ => iv_eq ⟨fun z => z.1, fun z => ⟨z, rfl, rfl, rfl, rfl⟩⟩)
  have d : sm (fun n => iv (qdB T n = true ∧ (true && (true && (true && true))) = true)) 42875 = nQ T := by
    show _ = (fL (qdB T) 42875).length
    rw [fL_sm]
    exact sm_ext 42875 (fun n _ => iv_eq ⟨fun z => z.1, fun z => ⟨z, rfl⟩⟩)
  rw [c, d] at a
  exact a
/-- the triple of a covered pair, among those numbered in a list -/
theorem in2_li {V : Nat} {T : sT} (hT : sOk V T) {t u v : Nat} (ht : t < (trL T 225).length) (h : in2 (mN T t) u v) : ¬ T u v = -1 ∧ li T u v = t := by
  have g := on_T hT ht h.2.1 h.2.2 h.1
  obtain ⟨w, -, -, -, -, -, d1, -, -, l1, -, o1, o2, -⟩ := li_s hT g.1
  exact ⟨g.1, on_1 hT l1 ht d1 o1 o2 h.2.1 h.2.2⟩
theorem uTs_D {V : Nat} {T : sT} (hT : sOk V T) {D : List Nat} (hD : ∀ t, t ∈ D → t < (trL T 225).length) (u v : Nat) : (¬ T u v = -1 ∧ ¬ li T u v ∈ D → uTs T (D.map (mN T)) u v = T u v) ∧ (T u v = -1 ∨ li T u v ∈ D → uTs T (D.map (mN T)) u v = -1) := by
  constructor
  · rintro ⟨h1, h2⟩
    refine uTs_out (fun m hm g => ?_)
    obtain ⟨t, t1, rfl⟩ := List.mem_map.mp hm
    have := (in2_li hT (hD t t1) g).2
    rw [this] at h2
    exact h2 t1
  · intro h
    by_cases e : T u v = -1
    · exact uTs_none e
    · rcases h with h | h
      · exact absurd h e
      · obtain ⟨w, -, -, -, -, -, d1, -, -, l1, -, o1, o2, -⟩ := li_s hT e
        exact uTs_in (m := mN T (li T u v)) (List.mem_map.mpr ⟨_, h, rfl⟩) ⟨d1, o1, o2⟩
/-- the quadrilaterals that stay when triples are taken -/
theorem nQ_take {V : Nat} {T : sT} (hT : sOk V T) {D : List Nat} (hD : ∀ t, t ∈ D → t < (trL T 225).length) (hT0 : sOk V (uTs T (D.map (mN T)))) (g : Nat → Bool) (hg : ∀ t, g t = true ↔ ¬ t ∈ D) : nQ (uTs T (D.map (mN T))) = sm (fun n => iv (qdB T n = true ∧ (g (n / 1225) && (g (n / 35 % 35) && (g (n % 35) && g (ql T n)))) = true)) 42875 := by
  have a := nQ_24 hT0
  have b : 24 * sm (fun n => iv (qdB T n = true ∧ (g (n / 1225) && (g (n / 35 % 35) && (g (n % 35) && g (ql T n)))) = true)) 42875 = _ := qd_24 hT g
  have c : s3 15 (fun p a c => iv (Pa (uTs T (D.map (mN T))) p a c)) = s3 15 (fun p a c => iv (Pa T p a c ∧ g (li T p a) = true ∧ g (li T p c) = true ∧ g (li T a c) = true ∧ g (li T (T p a).toNat (T p c).toNat) = true)) := s3_ext (fun p a c _ _ _ => iv_eq (by
    have q := fun u v => uTs_D hT hD u v
    generalize uTs T (D.map (mN T)) = S at q
    have w : ∀ u v, (S u v = T u v ∧ ¬ T u v = -1 ∧ g (li T u v) = true) ∨ (S u v = -1 ∧ (T u v = -1 ∨ ¬ g (li T u v) = true)) := fun u v => by
      by_cases e : T u v = -1
      · exact Or.inr ⟨(q u v).2 (Or.inl e), Or.inl e⟩
      · by_cases k : li T u v ∈ D
        · exact Or.inr ⟨(q u v).2 (Or.inr k), Or.inr (fun z => (hg _).mp z k)⟩
        · exact Or.inl ⟨(q u v).1 ⟨e, k⟩, e, (hg _).mpr k⟩
    constructor
    · rintro ⟨h1, h2, h3, h4, h5⟩
      rcases w p a with ⟨w1, w2, w3⟩ | ⟨w1, -⟩
      · rcases w p c with ⟨x1, x2, x3⟩ | ⟨x1, -⟩
        · rcases w a c with ⟨y1, y2, y3⟩ | ⟨y1, -⟩
          · rw [w1, x1, y1] at h5
            rcases w (T p a).toNat (T p c).toNat with ⟨z1, z2, z3⟩ | ⟨z1, -⟩
            · exact ⟨⟨w2, x2, y2, by rw [← w1]; exact h4, by rw [← z1]; exact h5⟩, w3, x3, y3, z3⟩
            · rw [z1] at h5
              exact absurd h5.symm y2
          · exact absurd y1 h3
        · exact absurd x1 h2
      · exact absurd w1 h1
    · rintro ⟨⟨h1, h2, h3, h4, h5⟩, g1, g2, g3, g4⟩
      have h6 : ¬ T (T p a).toNat (T p c).toNat = -1 := by rw [h5]; exact h3
      have k : ∀ u v, ¬ T u v = -1 → g (li T u v) = true → S u v = T u v := fun u v e1 e2 => by
        rcases w u v with z | z
        · exact z.1
        · rcases z.2 with z2 | z2
          · exact absurd z2 e1
          · exact absurd e2 z2
      have e1 := k p a h1 g1
      have e2 := k p c h2 g2
      have e3 := k a c h3 g3
      have e4 := k _ _ h6 g4
      refine ⟨by rw [e1]; exact h1, by rw [e2]; exact h2, by rw [e3]; exact h3, by rw [e1]; exact h4, ?_⟩
      rw [e1, e2, e3, e4]
      exact h5))
  rw [c] at a
  have d := a.trans b.symm
  omega
/-- those that a triple makes: beside two of its points, counted from the third -/
def cw (V : Nat) (T : sT) (x y z : Nat) : Nat := sm (fun a => iv (¬ T x a = -1 ∧ ¬ a = y ∧ ¬ a = z ∧ ¬ T y a = -1 ∧ T y a = T z (T x a).toNat)) V
theorem b9d : ∀ xj xk xl yj yk yl zj zk zl : Bool, ((xj || xk || xl) && ((yj || yk || yl) && ((zj || zk || zl) && (!(xj && xk) && (!(xj && xl) && (!(xk && xl) && (!(yj && yk) && (!(yj && yl) && (!(yk && yl) && (!(zj && zk) && (!(zj && zl) && (!(zk && zl) && (!(xj && yj) && (!(xj && zj) && (!(yj && zj) && (!(xk && yk) && (!(xk && zk) && (!(yk && zk) && (!(xl && yl) && (!(xl && zl) && (!(yl && zl)))))))))))))))))))))) = true → (xj && yk && zl).toNat + (xj && yl && zk).toNat + (xk && yj && zl).toNat + (xl && yj && zk).toNat + (xk && yl && zj).toNat + (xl && yk && zj).toNat = 1 := by decide +kernel
theorem b9 : ∀ xj xk xl yj yk yl zj zk zl : Bool, (xj || xk || xl) = true → (yj || yk || yl) = true → (zj || zk || zl) = true → (xj && xk) = false → (xj && xl) = false → (xk && xl) = false → (yj && yk) = false → (yj && yl) = false → (yk && yl) = false → (zj && zk) = false → (zj && zl) = false → (zk && zl) = false → (xj && yj) = false → (xj && zj) = false → (yj && zj) = false → (xk && yk) = false → (xk && zk) = false → (yk && zk) = false → (xl && yl) = false → (xl && zl) = false → (yl && zl) = false → (xj && yk && zl).toNat + (xj && yl && zk).toNat + (xk && yj && zl).toNat + (xl && yj && zk).toNat + (xk && yl && zj).toNat + (xl && yk && zj).toNat = 1 := by
  intro xj xk xl yj yk yl zj zk zl h0 h1 h2 h3 h4 h5 h6 h7 h8 h9 h10 h11 h12 h13 h14 h15 h16 h17 h18 h19 h20
  refine b9d xj xk xl yj yk yl zj zk zl ?_
  rw [h0, h1, h2, h3, h4, h5, h6, h7, h8, h9, h10, h11, h12, h13, h14, h15, h16, h17, h18, h19, h20]
  rfl
theorem iv_b {P : Prop} [Decidable P] {b : Bool} : iv (P ∧ b = true) = iv P * b.toNat := by
  cases b
  · rw [iv_f (fun z => by cases z.2)]
    rfl
  · rw [iv_eq (q := P) ⟨fun z => z.1, fun z => ⟨z, rfl⟩⟩]
    exact (Nat.mul_one _).symm
/-- quadrilaterals with one triple, by its three points -/
theorem X4_one {V : Nat} {T : sT} (hT : sOk V T) {t x y z : Nat} (ht : t < (trL T 225).length) (hx : onL T t x) (hy : onL T t y) (hz : onL T t z) (hxy : ¬ x = y) (hyz : ¬ y = z) (hxz : ¬ x = z) : s4 35 (fun i j k l => iv (X4 T i j k l ∧ i = t)) = 6 * s4 35 (fun i j k l => iv ((X4 T i j k l ∧ i = t) ∧ ((mN T j).testBit x && (mN T k).testBit y && (mN T l).testBit z) = true)) := by
  obtain ⟨s1, s2, s3', s4'⟩ := X4_sym T
  have e : s4 35 (fun i j k l => iv (X4 T i j k l ∧ i = t)) = s4 35 (fun i j k l => iv ((X4 T i j k l ∧ i = t) ∧ ((mN T j).testBit x && (mN T k).testBit y && (mN T l).testBit z) = true) + iv ((X4 T i j l k ∧ i = t) ∧ ((mN T j).testBit x && (mN T l).testBit y && (mN T k).testBit z) = true) + iv ((X4 T i k j l ∧ i = t) ∧ ((mN T k).testBit x && (mN T j).testBit y && (mN T l).testBit z) = true) + iv ((X4 T i l j k ∧ i = t) ∧ ((mN T l).testBit x && (mN T j).testBit y && (mN T k).testBit z) = true) + iv ((X4 T i k l j ∧ i = t) ∧ ((mN T k).testBit x && (mN T l).testBit y && (mN T j).testBit z) = true) + iv ((X4 T i l k j ∧ i = t) ∧ ((mN T l).testBit x && (mN T k).testBit y && (mN T j).testBit z) = true)) := s4_ext (fun i j k l _ _ _ _ => by
    by_cases h : X4 T i j k l ∧ i = t
    · obtain ⟨h, rfl⟩ := h
      have a2 := s3' _ _ _ _ h
      have a3 := s2 _ _ _ _ h
      have a4 := s2 _ _ _ _ a2
      have a5 := s3' _ _ _ _ a3
      have a6 := s3' _ _ _ _ a4
      obtain ⟨⟨bi, bj, bk, bl⟩, ⟨n12, n13, n14, n23, n24, n34⟩, -⟩ := id h
      rw [iv_b, iv_b, iv_b, iv_b, iv_b, iv_b, iv_t ⟨h, rfl⟩, iv_t ⟨a2, rfl⟩, iv_t ⟨a3, rfl⟩, iv_t ⟨a4, rfl⟩, iv_t ⟨a5, rfl⟩, iv_t ⟨a6, rfl⟩]
      simp only [Nat.one_mul]
      have o : ∀ u, onL T i u → ((mN T j).testBit u || (mN T k).testBit u || (mN T l).testBit u) = true := fun u hu => by
        rcases X4_or h hu with g | g | g
        · unfold onL at g; rw [g]; rfl
        · unfold onL at g; rw [g]; cases (mN T j).testBit u <;> rfl
        · unfold onL at g; rw [g]; cases (mN T j).testBit u <;> cases (mN T k).testBit u <;> rfl
      have an : ∀ a b : Bool, (a = true → b = true → False) → (a && b) = false := fun a b g => by
        cases a
        · rfl
        · cases b
          · rfl
          · exact (g rfl rfl).elim
      have dj : ∀ u v, onL T i u → onL T i v → ¬ u = v → ∀ s, s < (trL T 225).length → ¬ i = s → ((mN T s).testBit u && (mN T s).testBit v) = false := fun u v hu hv hne s hs hns => an _ _ (fun g1 g2 => hns (on_1 hT bi hs hne hu hv g1 g2))
      have dp : ∀ u, onL T i u → ((mN T j).testBit u && (mN T k).testBit u) = false ∧ ((mN T j).testBit u && (mN T l).testBit u) = false ∧ ((mN T k).testBit u && (mN T l).testBit u) = false := fun u hu => ⟨an _ _ (fun g1 g2 => X4_no3 hT h hu g1 g2), an _ _ (fun g1 g2 => X4_no3 hT a2 hu g1 g2), an _ _ (fun g1 g2 => X4_no3 hT a5 hu g1 g2)⟩
      exact (b9 _ _ _ _ _ _ _ _ _ (o x hx) (o y hy) (o z hz) (dp x hx).1 (dp x hx).2.1 (dp x hx).2.2 (dp y hy).1 (dp y hy).2.1 (dp y hy).2.2 (dp z hz).1 (dp z hz).2.1 (dp z hz).2.2 (dj x y hx hy hxy j bj n12) (dj x z hx hz hxz j bj n12) (dj y z hy hz hyz j bj n12) (dj x y hx hy hxy k bk n13) (dj x z hx hz hxz k bk n13) (dj y z hy hz hyz k bk n13) (dj x y hx hy hxy l bl n14) (dj x z hx hz hxz l bl n14) (dj y z hy hz hyz l bl n14)).symm
    · rw [iv_f h, iv_f (fun g => h g.1), iv_f (fun g => h ⟨s3' _ _ _ _ g.1.1, g.1.2⟩), iv_f (fun g => h ⟨s2 _ _ _ _ g.1.1, g.1.2⟩), iv_f (fun g => h ⟨s3' _ _ _ _ (s2 _ _ _ _ g.1.1), g.1.2⟩), iv_f (fun g => h ⟨s2 _ _ _ _ (s3' _ _ _ _ g.1.1), g.1.2⟩), iv_f (fun g => h ⟨s3' _ _ _ _ (s2 _ _ _ _ (s3' _ _ _ _ g.1.1)), g.1.2⟩)])
  have p1 : s4 35 (fun i j k l => iv ((X4 T i j l k ∧ i = t) ∧ ((mN T j).testBit x && (mN T l).testBit y && (mN T k).testBit z) = true)) = s4 35 (fun i j k l => iv ((X4 T i j k l ∧ i = t) ∧ ((mN T j).testBit x && (mN T k).testBit y && (mN T l).testBit z) = true)) := s4_34 (fun i j k l => iv ((X4 T i j k l ∧ i = t) ∧ ((mN T j).testBit x && (mN T k).testBit y && (mN T l).testBit z) = true))
  have p2 : s4 35 (fun i j k l => iv ((X4 T i k j l ∧ i = t) ∧ ((mN T k).testBit x && (mN T j).testBit y && (mN T l).testBit z) = true)) = s4 35 (fun i j k l => iv ((X4 T i j k l ∧ i = t) ∧ ((mN T j).testBit x && (mN T k).testBit y && (mN T l).testBit z) = true)) := s4_23 (fun i j k l => iv ((X4 T i j k l ∧ i = t) ∧ ((mN T j).testBit x && (mN T k).testBit y && (mN T l).testBit z) = true))
  have p3 : s4 35 (fun i j k l => iv ((X4 T i l j k ∧ i = t) ∧ ((mN T l).testBit x && (mN T j).testBit y && (mN T k).testBit z) = true)) = s4 35 (fun i j k l => iv ((X4 T i j k l ∧ i = t) ∧ ((mN T j).testBit x && (mN T k).testBit y && (mN T l).testBit z) = true)) :=
    (s4_34 (fun i j k l => iv ((X4 T i k j l ∧ i = t) ∧ ((mN T k).testBit x && (mN T j).testBit y && (mN T l).testBit z) = true))).trans p2
  have p4 : s4 35 (fun i j k l => iv ((X4 T i k l j ∧ i = t) ∧ ((mN T k).testBit x && (mN T l).testBit y && (mN T j).testBit z) = true)) = s4 35 (fun i j k l => iv ((X4 T i j k l ∧ i = t) ∧ ((mN T j).testBit x && (mN T k).testBit y && (mN T l).testBit z) = true)) :=
    (s4_23 (fun i j k l => iv ((X4 T i j l k ∧ i = t) ∧ ((mN T j).testBit x && (mN T l).testBit y && (mN T k).testBit z) = true))).trans p1
  have p5 : s4 35 (fun i j k l => iv ((X4 T i l k j ∧ i = t) ∧ ((mN T l).testBit x && (mN T k).testBit y && (mN T j).testBit z) = true)) = s4 35 (fun i j k l => iv ((X4 T i j k l ∧ i = t) ∧ ((mN T j).testBit x && (mN T k).testBit y && (mN T l).testBit z) = true)) :=
    (s4_34 (fun i j k l => iv ((X4 T i k l j ∧ i = t) ∧ ((mN T k).testBit x && (mN T l).testBit y && (mN T j).testBit z) = true))).trans p4
  rw [e, s4_add, s4_add, s4_add, s4_add, s4_add, p1, p2, p3, p4, p5]
  omega
/-- quadrilaterals with one triple -/
theorem X4_has {V : Nat} {T : sT} (hT : sOk V T) {t : Nat} : 24 * sm (fun n => iv (qdB T n = true ∧ (decide (n / 1225 = t) || (decide (n / 35 % 35 = t) || (decide (n % 35 = t) || decide (ql T n = t)))) = true)) 42875 = 4 * s4 35 (fun i j k l => iv (X4 T i j k l ∧ i = t)) := by
  obtain ⟨s1, s2, s3', s4'⟩ := X4_sym T
  have C : sm (fun n => iv (qdB T n = true ∧ (decide (n / 1225 = t) || (decide (n / 35 % 35 = t) || (decide (n % 35 = t) || decide (ql T n = t)))) = true)) 42875 = s4 35 (fun i j k l => iv ((X4 T i j k l ∧ i < j ∧ j < k ∧ k < l) ∧ (decide (i = t) || (decide (j = t) || (decide (k = t) || decide (l = t)))) = true)) := qd_sum hT (fun i j k l => decide (i = t) || (decide (j = t) || (decide (k = t) || decide (l = t))))
  have hs : sym4 (fun i j k l => X4 T i j k l ∧ (i = t ∨ j = t ∨ k = t ∨ l = t)) := ⟨fun i j k l h => ⟨s1 _ _ _ _ h.1, by have := h.2; omega⟩, fun i j k l h => ⟨s2 _ _ _ _ h.1, by have := h.2; omega⟩, fun i j k l h => ⟨s3' _ _ _ _ h.1, by have := h.2; omega⟩, fun i j k l h => s4' _ _ _ _ h.1⟩
  have B := sym_24 (n := 35) hs
  have D : s4 35 (fun i j k l => iv ((X4 T i j k l ∧ i < j ∧ j < k ∧ k < l) ∧ (decide (i = t) || (decide (j = t) || (decide (k = t) || decide (l = t)))) = true)) = s4 35 (fun i j k l => iv ((X4 T i j k l ∧ (i = t ∨ j = t ∨ k = t ∨ l = t)) ∧ i < j ∧ j < k ∧ k < l)) := s4_ext (fun i j k l _ _ _ _ => iv_eq (by
    simp only [Bool.or_eq_true, decide_eq_true_eq]
    exact ⟨fun z => ⟨⟨z.1.1, z.2⟩, z.1.2⟩, fun z => ⟨⟨z.1.1, z.2⟩, z.1.2⟩⟩))
  have E : s4 35 (fun i j k l => iv (X4 T i j k l ∧ (i = t ∨ j = t ∨ k = t ∨ l = t))) = s4 35 (fun i j k l => iv (X4 T i j k l ∧ i = t) + iv (X4 T i j k l ∧ j = t) + iv (X4 T i j k l ∧ k = t) + iv (X4 T i j k l ∧ l = t)) := s4_ext (fun i j k l _ _ _ _ => by
    by_cases h : X4 T i j k l
    · have d := s4' _ _ _ _ h
      rw [← iv_or (by omega), ← iv_or (by omega), ← iv_or (by omega)]
      exact iv_eq (by
        constructor
        · rintro ⟨-, g⟩
          rcases g with g | g | g | g
          · exact Or.inl (Or.inl (Or.inl ⟨h, g⟩))
          · exact Or.inl (Or.inl (Or.inr ⟨h, g⟩))
          · exact Or.inl (Or.inr ⟨h, g⟩)
          · exact Or.inr ⟨h, g⟩
        · rintro (((g | g) | g) | g)
          · exact ⟨h, Or.inl g.2⟩
          · exact ⟨h, Or.inr (Or.inl g.2)⟩
          · exact ⟨h, Or.inr (Or.inr (Or.inl g.2))⟩
          · exact ⟨h, Or.inr (Or.inr (Or.inr g.2))⟩)
    · rw [iv_f (fun g => h g.1), iv_f (fun g => h g.1), iv_f (fun g => h g.1), iv_f (fun g => h g.1), iv_f (fun g => h g.1)])
  have q1 : s4 35 (fun i j k l => iv (X4 T i j k l ∧ j = t)) = s4 35 (fun i j k l => iv (X4 T i j k l ∧ i = t)) := (s4_ext (fun i j k l _ _ _ _ => iv_eq ⟨fun z => ⟨s1 _ _ _ _ z.1, z.2⟩, fun z => ⟨s1 _ _ _ _ z.1, z.2⟩⟩)).trans (s4_12 (fun i j k l => iv (X4 T i j k l ∧ i = t)))
  have q2 : s4 35 (fun i j k l => iv (X4 T i j k l ∧ k = t)) = s4 35 (fun i j k l => iv (X4 T i j k l ∧ i = t)) := ((s4_ext (fun i j k l _ _ _ _ => iv_eq ⟨fun z => ⟨s2 _ _ _ _ z.1, z.2⟩, fun z => ⟨s2 _ _ _ _ z.1, z.2⟩⟩)).trans (s4_23 (fun i j k l => iv (X4 T i j k l ∧ j = t)))).trans q1
  have q3 : s4 35 (fun i j k l => iv (X4 T i j k l ∧ l = t)) = s4 35 (fun i j k l => iv (X4 T i j k l ∧ i = t)) := ((s4_ext (fun i j k l _ _ _ _ => iv_eq ⟨fun z => ⟨s3' _ _ _ _ z.1, z.2⟩, fun z => ⟨s3' _ _ _ _ z.1, z.2⟩⟩)).trans (s4_34 (fun i j k l => iv (X4 T i j k l ∧ k = t)))).trans q2
  rw [s4_add, s4_add, s4_add, q1, q2, q3] at E
  have F := (congrArg (fun x => 24 * x) (C.trans D)).trans (B.symm.trans E)
  have F : 24 * sm (fun n => iv (qdB T n = true ∧ (decide (n / 1225 = t) || (decide (n / 35 % 35 = t) || (decide (n % 35 = t) || decide (ql T n = t)))) = true)) 42875 = _ := F
  rw [F]
  omega
/-- one triple put: so many quadrilaterals more as it makes -/
theorem X4_cw {V : Nat} {T : sT} (hT : sOk V T) {x y z : Nat} (e : T x y = (z : Int)) : s4 35 (fun i j k l => iv ((X4 T i j k l ∧ i = li T x y) ∧ ((mN T j).testBit x && (mN T k).testBit y && (mN T l).testBit z) = true)) = cw V T x y z := by
  have hne : ¬ T x y = -1 := by omega
  have hV := hT.2.1
  obtain ⟨w, ew, ew2, lx, ly, lz, dxy, dxw, dyw, lt, em, o1, o2, o3⟩ := li_s hT hne
  have hw : w = z := by omega
  subst hw
  have A := Pa_sumG hT (fun i j k l => decide (i = li T x y) && ((mN T j).testBit x && (mN T k).testBit y && (mN T l).testBit w))
  have B : s4 35 (fun i j k l => iv ((X4 T i j k l ∧ i = li T x y) ∧ ((mN T j).testBit x && (mN T k).testBit y && (mN T l).testBit w) = true)) = s4 35 (fun i j k l => iv (X4 T i j k l ∧ (decide (i = li T x y) && ((mN T j).testBit x && (mN T k).testBit y && (mN T l).testBit w)) = true)) := s4_ext (fun i j k l _ _ _ _ => iv_eq (by
    simp only [Bool.and_eq_true, decide_eq_true_eq]
    exact ⟨fun z => ⟨z.1.1, z.1.2, z.2⟩, fun z => ⟨⟨z.1, z.2.1⟩, z.2.2⟩⟩))
  have C : s3 15 (fun p a c => iv (Pa T p a c ∧ (decide (li T p a = li T x y) && ((mN T (li T p c)).testBit x && (mN T (li T a c)).testBit y && (mN T (li T (T p a).toNat (T p c).toNat)).testBit w)) = true)) = sm (fun c => iv (Pa T x y c)) 15 := by
    unfold s3
    refine sm_one (k := x) (by omega) (sm_one (k := y) (by omega) (sm_ext 15 (fun c _ => iv_eq (by
      constructor
      · exact fun z => z.1
      · intro h
        obtain ⟨-, h2, h3, h4, h5⟩ := id h
        obtain ⟨-, -, -, -, -, -, -, -, -, -, -, u1, -, -⟩ := li_s hT h2
        obtain ⟨-, -, -, -, -, -, -, -, -, -, -, u2, -, -⟩ := li_s hT h3
        obtain ⟨-, -, -, -, -, -, -, -, -, -, -, u3, -, -⟩ := li_s hT (u := (T x y).toNat) (v := (T x c).toNat) (by rw [h5]; exact h3)
        rw [ew2] at u3
        unfold onL at u1 u2 u3
        rw [ew2]
        refine ⟨h, ?_⟩
        rw [decide_eq_true rfl, u1, u2, u3]
        rfl))) (fun a ha hne2 => sm_none (fun c _ => iv_f (fun z => hne2 ?_)))) (fun p hp hne2 => sm_none (fun a _ => sm_none (fun c _ => iv_f (fun z => hne2 ?_))))
    · obtain ⟨z1, z2⟩ := z
      simp only [Bool.and_eq_true, decide_eq_true_eq] at z2
      obtain ⟨f1, ⟨f2, f3⟩, -⟩ := z2
      obtain ⟨⟨x1, x2, x3, x4⟩, ⟨n12, n13, n14, n23, n24, n34⟩, -⟩ := Pa_X4 hT z1
      obtain ⟨-, -, -, -, -, -, -, -, -, -, -, v1, v2, -⟩ := li_s hT z1.1
      obtain ⟨-, -, -, -, -, -, -, -, -, -, -, v3, -, -⟩ := li_s hT z1.2.2.1
      by_cases g : a = y
      · exact g
      · exact absurd (on_1 hT x1 x3 g v2 (by rw [f1]; exact o2) v3 f3) n13
    · obtain ⟨z1, z2⟩ := z
      simp only [Bool.and_eq_true, decide_eq_true_eq] at z2
      obtain ⟨f1, ⟨f2, f3⟩, -⟩ := z2
      obtain ⟨⟨x1, x2, x3, x4⟩, ⟨n12, n13, n14, n23, n24, n34⟩, -⟩ := Pa_X4 hT z1
      obtain ⟨-, -, -, -, -, -, -, -, -, -, -, v1, v2, -⟩ := li_s hT z1.1
      obtain ⟨-, -, -, -, -, -, -, -, -, -, -, v3, -, -⟩ := li_s hT z1.2.1
      by_cases g : p = x
      · exact g
      · exact absurd (on_1 hT x1 x2 g v1 (by rw [f1]; exact o1) v3 f2) n12
  have D : sm (fun c => iv (Pa T x y c)) 15 = cw V T x y w := by
    rw [show 15 = V + (15 - V) by omega, sm_split]
    have e0 : sm (fun j => iv (Pa T x y (V + j))) (15 - V) = 0 := sm_none (fun j _ => iv_f (fun z => by
      obtain ⟨-, -, -, -, l5, -⟩ := li_s hT z.2.1
      omega))
    rw [e0, Nat.add_zero]
    unfold cw
    refine sm_ext V (fun c _ => iv_eq ⟨fun z => ?_, fun z => ?_⟩)
    · obtain ⟨z1, z2, z3, z4, z5⟩ := z
      rw [ew2] at z5
      obtain ⟨-, -, -, -, -, -, d, -⟩ := li_s hT z3
      exact ⟨z2, fun q => d q.symm, by omega, z3, z5.symm⟩
    · obtain ⟨z1, z2, z3, z4, z5⟩ := z
      refine ⟨hne, z1, z4, by omega, ?_⟩
      rw [ew2]
      exact z5.symm
  exact B.trans (A.symm.trans (C.trans D))
theorem nQ_put {V : Nat} {T : sT} (hT : sOk V T) {x y z : Nat} (hx : x < V) (hy : y < V) (hz : z < V) (hxy : ¬ x = y) (hyz : ¬ y = z) (hxz : ¬ x = z) (hf : sFree T x y z) : nQ (sPut T x y z) = nQ T + cw V (sPut T x y z) x y z := by
  have hV := hT.2.1
  have hP := sOk_put hT hx hy hz hxy hyz hxz hf
  have ez : sPut T x y z x y = (z : Int) := by
    unfold sPut
    rw [if_pos ⟨hxy, by simp, by simp⟩]
    omega
  have hne : ¬ sPut T x y z x y = -1 := by omega
  obtain ⟨w, ew, ew2, -, -, -, d1, d2, d3, lt, em, o1, o2, o3⟩ := li_s hP hne
  have hw : w = z := by omega
  subst hw
  have eT : uTs (sPut T x y w) ([li (sPut T x y w) x y].map (mN (sPut T x y w))) = T := by
    show uTake (sPut T x y w) (mN (sPut T x y w) (li (sPut T x y w) x y)) = T
    rw [em, uTake_3]
    funext u v
    unfold sTake
    by_cases g : sPr x y w u v
    · rw [if_pos g]
      have sy : ∀ u v, T u v = -1 → T v u = -1 := fun u v e => sy_free hT e
      obtain ⟨f1, f2, f3⟩ := hf
      obtain ⟨g0, g1, g2⟩ := g
      rcases g1 with rfl | rfl | rfl <;> rcases g2 with rfl | rfl | rfl <;> first | exact absurd rfl g0 | exact f1.symm | exact f2.symm | exact f3.symm | exact (sy _ _ f1).symm | exact (sy _ _ f2).symm | exact (sy _ _ f3).symm
    · rw [if_neg g]
      unfold sPut
      rw [if_neg g]
  have a := nQ_take hP (D := [li (sPut T x y w) x y]) (fun t ht => by rw [List.mem_singleton] at ht; rw [ht]; exact lt) (by rw [eT]; exact hT) (fun t => !decide (t = li (sPut T x y w) x y)) (fun t => by rw [List.mem_singleton, Bool.not_eq_true', decide_eq_false_iff_not])
  rw [eT] at a
  have b := X4_has hP (t := li (sPut T x y w) x y)
  rw [X4_one hP lt o1 o2 o3 d1 d3 d2, X4_cw hP ez] at b
  have c : nQ (sPut T x y w) = sm (fun n => iv (qdB (sPut T x y w) n = true ∧ (!decide (n / 1225 = li (sPut T x y w) x y) && (!decide (n / 35 % 35 = li (sPut T x y w) x y) && (!decide (n % 35 = li (sPut T x y w) x y) && !decide (ql (sPut T x y w) n = li (sPut T x y w) x y)))) = true) + iv (qdB (sPut T x y w) n = true ∧ (decide (n / 1225 = li (sPut T x y w) x y) || (decide (n / 35 % 35 = li (sPut T x y w) x y) || (decide (n % 35 = li (sPut T x y w) x y) || decide (ql (sPut T x y w) n = li (sPut T x y w) x y)))) = true)) 42875 := by
    show (fL (qdB (sPut T x y w)) 42875).length = _
    rw [fL_sm]
    refine sm_ext 42875 (fun n _ => ?_)
    rw [iv_b, iv_b]
    generalize decide (n / 1225 = li (sPut T x y w) x y) = b1
    generalize decide (n / 35 % 35 = li (sPut T x y w) x y) = b2
    generalize decide (n % 35 = li (sPut T x y w) x y) = b3
    generalize decide (ql (sPut T x y w) n = li (sPut T x y w) x y) = b4
    cases b1 <;> cases b2 <;> cases b3 <;> cases b4 <;> simp
  rw [sm_add, ← a] at c
  omega
end
/-! ##### 19.m.081.38d ##### -/
section
/-! ===== the class counts the quadrilaterals with a triple ===== -/
theorem u67 : bUp 0 am_m67.1 = true := by decide +kernel
theorem l67E {d o V x y z : Nat} {T : sT} {hp : amH} {R : xQ} {s a b c : Int32} (ho : bo o) (hH : bHk 84 bTT hp) (hB : bdOk hp o V T) (ha : a.toInt = (x : Int)) (hb : b.toInt = (y : Int)) (hc : c.toInt = (z : Int))
    (hR : ∀ r : Int32, r.toInt = ((cw V T x y z : Nat) : Int) → R (.inl (some (.int r))) hp) :
    ∀ (jj t : Nat) (w wt : Int32) (v7 v8 : Option Value), wt.toInt = (t : Int) → t + jj = V → w.toInt = ((sm (fun a => iv (¬ T x a = -1 ∧ ¬ a = y ∧ ¬ a = z ∧ ¬ T y a = -1 ∧ T y a = T z (T x a).toNat)) t : Nat) : Int) → xV (d + 2) am_m67 25 [some (.ref o), some (.int s), some (.int a), some (.int b), some (.int c), some (.int w), some (.int wt), v7, v8] [] hp R := by
  have hT := hB.2.1
  have hV := hT.2.1
  have e0 := hB.1
  intro jj
  induction jj with
  | zero =>
    intro t w wt v7 v8 hwt hj hw
    have et : t = V := by omega
    subst et
    refine xild2 27 ⟨u67, _, rfl⟩ rfl rfl ?_
    refine xald 28 ⟨u67, _, rfl⟩ rfl rfl ?_
    refine xgetC 31 hH ⟨u67, _, rfl⟩ rfl (bo_lt ho) (by decide) (bo_T ho) rfl (by decide) (fun z28 h28 => ?_)
    refine xcmp_ge 34 ⟨u67, _, rfl⟩ rfl (fun c31 => ?_) (fun c31 => ?_)
    · refine xild2 108 ⟨u67, _, rfl⟩ rfl rfl ?_
      exact xret ⟨u67, _, rfl⟩ rfl (hR _ hw)
    · omega
  | succ jj ih =>
    intro t w wt v7 v8 hwt hj hw
    have lw : sm (fun a => iv (¬ T x a = -1 ∧ ¬ a = y ∧ ¬ a = z ∧ ¬ T y a = -1 ∧ T y a = T z (T x a).toNat)) t ≤ sm (fun _ => 1) t := sm_le t (fun i _ => iv_le)
    rw [sm_const] at lw
    have st : sm (fun a => iv (¬ T x a = -1 ∧ ¬ a = y ∧ ¬ a = z ∧ ¬ T y a = -1 ∧ T y a = T z (T x a).toNat)) (t + 1) = sm (fun a => iv (¬ T x a = -1 ∧ ¬ a = y ∧ ¬ a = z ∧ ¬ T y a = -1 ∧ T y a = T z (T x a).toNat)) t + iv (¬ T x t = -1 ∧ ¬ t = y ∧ ¬ t = z ∧ ¬ T y t = -1 ∧ T y t = T z (T x t).toNat) := rfl
    refine xild2 27 ⟨u67, _, rfl⟩ rfl rfl ?_
    refine xald 28 ⟨u67, _, rfl⟩ rfl rfl ?_
    refine xgetC 31 hH ⟨u67, _, rfl⟩ rfl (bo_lt ho) (by decide) (bo_T ho) rfl (by decide) (fun z28 h28 => ?_)
    refine xcmp_ge 34 ⟨u67, _, rfl⟩ rfl (fun c31 => ?_) (fun c31 => ?_)
    · omega
    · refine xald 35 ⟨u67, _, rfl⟩ rfl rfl ?_
      refine xild 36 ⟨u67, _, rfl⟩ rfl rfl ?_
      refine xild2 38 ⟨u67, _, rfl⟩ rfl rfl ?_
      refine xcallC 41 (o := o) [.int _, .int _] [] hH ⟨u67, _, rfl⟩ rfl rfl (bo_lt ho) (bo_T ho) (by decide) rfl ⟨rfl, rfl, rfl, rfl⟩ rfl (k_thd ho hH hB (fun z38 h38 => ⟨_, rfl, ?_⟩))
      rw [if_pos (by omega), show a.toInt.toNat = x by omega, show wt.toInt.toNat = t by omega] at h38
      refine xist2 43 ⟨u67, _, rfl⟩ rfl rfl ?_
      refine xild2 45 ⟨u67, _, rfl⟩ rfl rfl ?_
      refine xcst 46 (-1) ⟨u67, _, rfl⟩ rfl (by decide) (fun z45 h45 => ?_)
      refine xcmp_eq 49 ⟨u67, _, rfl⟩ rfl (fun c46 => ?_) (fun c46 => ?_)
      · have q0 : iv (¬ T x t = -1 ∧ ¬ t = y ∧ ¬ t = z ∧ ¬ T y t = -1 ∧ T y t = T z (T x t).toNat) = 0 := iv_f (fun g => by omega)
        refine xinc 103 (1) ⟨u67, _, rfl⟩ rfl rfl rfl (by decide) (by omega) (by omega) (fun z100 h100 => ?_)
        refine xgoto ⟨u67, _, rfl⟩ ?_
        exact ih (t + 1) w z100 _ _ (by omega) (by omega) (by rw [st]; omega)
      · refine xild2 51 ⟨u67, _, rfl⟩ rfl rfl ?_
        refine xild 52 ⟨u67, _, rfl⟩ rfl rfl ?_
        refine xcmp_eq 55 ⟨u67, _, rfl⟩ rfl (fun c52 => ?_) (fun c52 => ?_)
        · have q0 : iv (¬ T x t = -1 ∧ ¬ t = y ∧ ¬ t = z ∧ ¬ T y t = -1 ∧ T y t = T z (T x t).toNat) = 0 := iv_f (fun g => by omega)
          refine xinc 103 (1) ⟨u67, _, rfl⟩ rfl rfl rfl (by decide) (by omega) (by omega) (fun z100 h100 => ?_)
          refine xgoto ⟨u67, _, rfl⟩ ?_
          exact ih (t + 1) w z100 _ _ (by omega) (by omega) (by rw [st]; omega)
        · refine xild2 57 ⟨u67, _, rfl⟩ rfl rfl ?_
          refine xild2 59 ⟨u67, _, rfl⟩ rfl rfl ?_
          refine xcmp_eq 62 ⟨u67, _, rfl⟩ rfl (fun c59 => ?_) (fun c59 => ?_)
          · have q0 : iv (¬ T x t = -1 ∧ ¬ t = y ∧ ¬ t = z ∧ ¬ T y t = -1 ∧ T y t = T z (T x t).toNat) = 0 := iv_f (fun g => by omega)
            refine xinc 103 (1) ⟨u67, _, rfl⟩ rfl rfl rfl (by decide) (by omega) (by omega) (fun z100 h100 => ?_)
            refine xgoto ⟨u67, _, rfl⟩ ?_
            exact ih (t + 1) w z100 _ _ (by omega) (by omega) (by rw [st]; omega)
          · refine xald 63 ⟨u67, _, rfl⟩ rfl rfl ?_
            refine xild 64 ⟨u67, _, rfl⟩ rfl rfl ?_
            refine xild2 66 ⟨u67, _, rfl⟩ rfl rfl ?_
            refine xcallC 69 (o := o) [.int _, .int _] [] hH ⟨u67, _, rfl⟩ rfl rfl (bo_lt ho) (bo_T ho) (by decide) rfl ⟨rfl, rfl, rfl, rfl⟩ rfl (k_thd ho hH hB (fun z66 h66 => ⟨_, rfl, ?_⟩))
            rw [if_pos (by omega), show b.toInt.toNat = y by omega, show wt.toInt.toNat = t by omega] at h66
            refine xist2 71 ⟨u67, _, rfl⟩ rfl rfl ?_
            refine xild2 73 ⟨u67, _, rfl⟩ rfl rfl ?_
            refine xild2 75 ⟨u67, _, rfl⟩ rfl rfl ?_
            refine xcst 76 (-1) ⟨u67, _, rfl⟩ rfl (by decide) (fun z75 h75 => ?_)
            refine xcmp_eq 79 ⟨u67, _, rfl⟩ rfl (fun c76 => ?_) (fun c76 => ?_)
            · have q0 : iv (¬ T x t = -1 ∧ ¬ t = y ∧ ¬ t = z ∧ ¬ T y t = -1 ∧ T y t = T z (T x t).toNat) = 0 := iv_f (fun g => by omega)
              refine xcst 97 (0) ⟨u67, _, rfl⟩ rfl (by decide) (fun z96 h96 => ?_)
              refine xadd 98 _ ⟨u67, _, rfl⟩ rfl rfl (by omega) (by omega) (fun z97 h97 => ?_)
              refine xist2 100 ⟨u67, _, rfl⟩ rfl rfl ?_
              refine xinc 103 (1) ⟨u67, _, rfl⟩ rfl rfl rfl (by decide) (by omega) (by omega) (fun z100 h100 => ?_)
              refine xgoto ⟨u67, _, rfl⟩ ?_
              exact ih (t + 1) z97 z100 _ _ (by omega) (by omega) (by rw [st]; omega)
            · refine xild2 81 ⟨u67, _, rfl⟩ rfl rfl ?_
              refine xald 82 ⟨u67, _, rfl⟩ rfl rfl ?_
              refine xild2 84 ⟨u67, _, rfl⟩ rfl rfl ?_
              refine xild2 86 ⟨u67, _, rfl⟩ rfl rfl ?_
              refine xcallC 89 (o := o) [.int _, .int _] [.int _, .int _] hH ⟨u67, _, rfl⟩ rfl rfl (bo_lt ho) (bo_T ho) (by decide) rfl ⟨rfl, rfl, rfl, rfl⟩ rfl (k_thd ho hH hB (fun z86 h86 => ⟨_, rfl, ?_⟩))
              obtain ⟨k, ek, -⟩ := sOk_at hT (a := x) (b := t) rfl (by omega)
              rw [if_pos (by omega), show c.toInt.toNat = z by omega, show z38.toInt.toNat = (T x t).toNat by rw [h38]] at h86
              refine xcmp_ne 92 ⟨u67, _, rfl⟩ rfl (fun c89 => ?_) (fun c89 => ?_)
              · have q0 : iv (¬ T x t = -1 ∧ ¬ t = y ∧ ¬ t = z ∧ ¬ T y t = -1 ∧ T y t = T z (T x t).toNat) = 0 := iv_f (fun g => by omega)
                refine xcst 97 (0) ⟨u67, _, rfl⟩ rfl (by decide) (fun z96 h96 => ?_)
                refine xadd 98 _ ⟨u67, _, rfl⟩ rfl rfl (by omega) (by omega) (fun z97 h97 => ?_)
                refine xist2 100 ⟨u67, _, rfl⟩ rfl rfl ?_
                refine xinc 103 (1) ⟨u67, _, rfl⟩ rfl rfl rfl (by decide) (by omega) (by omega) (fun z100 h100 => ?_)
                refine xgoto ⟨u67, _, rfl⟩ ?_
                exact ih (t + 1) z97 z100 _ _ (by omega) (by omega) (by rw [st]; omega)
              · have q1 : iv (¬ T x t = -1 ∧ ¬ t = y ∧ ¬ t = z ∧ ¬ T y t = -1 ∧ T y t = T z (T x t).toNat) = 1 := iv_t ⟨by omega, by omega, by omega, by omega, by omega⟩
                refine xcst 93 (1) ⟨u67, _, rfl⟩ rfl (by decide) (fun z92 h92 => ?_)
                refine xgoto ⟨u67, _, rfl⟩ ?_
                refine xadd 98 _ ⟨u67, _, rfl⟩ rfl rfl (by omega) (by omega) (fun z97 h97 => ?_)
                refine xist2 100 ⟨u67, _, rfl⟩ rfl rfl ?_
                refine xinc 103 (1) ⟨u67, _, rfl⟩ rfl rfl rfl (by decide) (by omega) (by omega) (fun z100 h100 => ?_)
                refine xgoto ⟨u67, _, rfl⟩ ?_
                exact ih (t + 1) z97 z100 _ _ (by omega) (by omega) (by rw [st]; omega)
theorem k_cnt {d o V x y z : Nat} {T : sT} {hp : amH} {R : xQ} {s : Int32} (ho : bo o) (hH : bHk 84 bTT hp) (hB : bdOk hp o V T) (hs : s.toInt = ((m3 x y z : Nat) : Int)) (h1 : x < y) (h2 : y < z) (h3 : z < V)
    (hR : ∀ r : Int32, r.toInt = ((cw V T x y z : Nat) : Int) → R (.inl (some (.int r))) hp) : xK (d + 2) 67 [.ref o, .int s] hp R := by
  have hV := hB.2.1.2.1
  have ml : m3 x y z < 32768 := m3_lt (by omega) (by omega) (by omega)
  obtain ⟨mm0, mm1, mm2⟩ := mem3 h1 h2 (show z < 15 by omega)
  refine xin (M := am_m67) rfl rfl (by unfold xAv; simp [amOk, bo_lt ho, Value.category]) ?_
  refine xild 1 ⟨u67, _, rfl⟩ rfl rfl ?_
  refine xcst 2 (0) ⟨u67, _, rfl⟩ rfl (by decide) (fun z1 h1 => ?_)
  refine xcallS 5 [.int _, .int _] [] hH ⟨u67, _, rfl⟩ rfl rfl rfl rfl rfl (k_mem hH hs ml (i := 0) (by omega) (fun z2 h2 => ⟨_, rfl, ?_⟩))
  rw [mm0] at h2
  refine xist 6 ⟨u67, _, rfl⟩ rfl rfl ?_
  refine xild 7 ⟨u67, _, rfl⟩ rfl rfl ?_
  refine xcst 8 (1) ⟨u67, _, rfl⟩ rfl (by decide) (fun z7 h7 => ?_)
  refine xcallS 11 [.int _, .int _] [] hH ⟨u67, _, rfl⟩ rfl rfl rfl rfl rfl (k_mem hH hs ml (i := 1) (by omega) (fun z8 h8 => ⟨_, rfl, ?_⟩))
  rw [mm1] at h8
  refine xist 12 ⟨u67, _, rfl⟩ rfl rfl ?_
  refine xild 13 ⟨u67, _, rfl⟩ rfl rfl ?_
  refine xcst 14 (2) ⟨u67, _, rfl⟩ rfl (by decide) (fun z13 h13 => ?_)
  refine xcallS 17 [.int _, .int _] [] hH ⟨u67, _, rfl⟩ rfl rfl rfl rfl rfl (k_mem hH hs ml (i := 2) (by omega) (fun z14 h14 => ⟨_, rfl, ?_⟩))
  rw [mm2] at h14
  refine xist2 19 ⟨u67, _, rfl⟩ rfl rfl ?_
  refine xcst 20 (0) ⟨u67, _, rfl⟩ rfl (by decide) (fun z19 h19 => ?_)
  refine xist2 22 ⟨u67, _, rfl⟩ rfl rfl ?_
  refine xcst 23 (0) ⟨u67, _, rfl⟩ rfl (by decide) (fun z22 h22 => ?_)
  refine xist2 25 ⟨u67, _, rfl⟩ rfl rfl ?_
  refine xpad 2 ?_
  exact l67E ho hH hB h2 h8 h14 hR V 0 _ _ _ _ (by omega) (by omega) (by show z19.toInt = ((0 : Nat) : Int); omega)
end
/-! ##### 19.m.082.38e ##### -/
section
/-! ===== the lowest of a set of numbers, in longs ===== -/
def jL : List Nat → Nat
  | [] => 0
  | x :: r => 2 ^ x + jL r
/-- rising, below 35 -/
def ris : List Nat → Prop
  | [] => True
  | x :: r => (x < 35 ∧ ∀ y, y ∈ r → x < y) ∧ ris r
theorem p2s (x : Nat) : 2 ^ (x + 1) = 2 ^ x + 2 ^ x := by rw [Nat.pow_succ]; omega
theorem jL_le : ∀ {L : List Nat} {x : Nat}, x ≤ 35 → (∀ y, y ∈ L → x ≤ y) → ris L → jL L + 2 ^ x ≤ 2 ^ 35
  | [], x, hx, _, _ => by
    show 0 + 2 ^ x ≤ 2 ^ 35
    rw [Nat.zero_add]
    exact Nat.pow_le_pow_right (by decide) hx
  | y :: r, x, hx, h, hr => by
    obtain ⟨⟨h1, h2⟩, h3⟩ := hr
    have i := jL_le (L := r) (x := y + 1) (by omega) (fun z hz => h2 z hz) h3
    have j : 2 ^ x ≤ 2 ^ y := Nat.pow_le_pow_right (by decide) (h y List.mem_cons_self)
    rw [p2s] at i
    show 2 ^ y + jL r + 2 ^ x ≤ 2 ^ 35
    omega
theorem jL_mul : ∀ {L : List Nat} {x : Nat}, (∀ y, y ∈ L → x < y) → ∃ s, jL L = 2 ^ (x + 1) * s
  | [], x, _ => ⟨0, rfl⟩
  | y :: r, x, h => by
    obtain ⟨s, e⟩ := jL_mul (L := r) (x := x) (fun z hz => h z (List.mem_cons_of_mem _ hz))
    have hy := h y List.mem_cons_self
    refine ⟨2 ^ (y - (x + 1)) + s, ?_⟩
    show 2 ^ y + jL r = _
    rw [e, Nat.mul_add, ← Nat.pow_add, show x + 1 + (y - (x + 1)) = y by omega]
theorem low1 (x s : Nat) : (2 ^ (x + 1) * s + 2 ^ x) &&& (2 ^ (x + 1) * s + (2 ^ x - 1)) = 2 ^ (x + 1) * s := by
  have l1 : 2 ^ x < 2 ^ (x + 1) := by rw [p2s]; have := Nat.two_pow_pos x; omega
  apply Nat.eq_of_testBit_eq
  intro j
  have e0 : (2 ^ (x + 1) * s).testBit j = (2 ^ (x + 1) * s + 0).testBit j := congrArg (fun z => Nat.testBit z j) (Nat.add_zero _).symm
  rw [e0, Nat.testBit_and, Nat.testBit_two_pow_mul_add s l1, Nat.testBit_two_pow_mul_add s (show 2 ^ x - 1 < 2 ^ (x + 1) by omega), Nat.testBit_two_pow_mul_add s (Nat.two_pow_pos (x + 1))]
  by_cases h : j < x + 1
  · rw [if_pos h, if_pos h, if_pos h, Nat.testBit_two_pow, Nat.testBit_two_pow_sub_one, Nat.zero_testBit]
    by_cases g : x = j
    · rw [decide_eq_false (show ¬ j < x by omega), Bool.and_false]
    · rw [decide_eq_false g, Bool.false_and]
  · rw [if_neg h, if_neg h, if_neg h, Bool.and_self]
theorem low2 {x s : Nat} (hx : x < 63) (hs : s < 2 ^ (63 - x)) : (2 ^ (x + 1) * s + 2 ^ x) &&& (2 ^ 64 - (2 ^ (x + 1) * s + 2 ^ x)) = 2 ^ x := by
  have l1 : 2 ^ x < 2 ^ (x + 1) := by rw [p2s]; have := Nat.two_pow_pos x; omega
  have e : 2 ^ 64 - (2 ^ (x + 1) * s + 2 ^ x) = 2 ^ (x + 1) * (2 ^ (63 - x) - (s + 1)) + 2 ^ x := by
    have e1 : 2 ^ (x + 1) * 2 ^ (63 - x) = 2 ^ 64 := by rw [← Nat.pow_add, show x + 1 + (63 - x) = 64 by omega]
    have e2 : 2 ^ (x + 1) * (s + 1) ≤ 2 ^ (x + 1) * 2 ^ (63 - x) := Nat.mul_le_mul_left _ hs
    rw [Nat.mul_sub, e1]
    rw [e1, Nat.mul_add, Nat.mul_one] at e2
    rw [Nat.mul_add, Nat.mul_one]
    have e3 := p2s x
    generalize 2 ^ (x + 1) * s = A at *
    omega
  rw [e]
  apply Nat.eq_of_testBit_eq
  intro j
  rw [Nat.testBit_and, Nat.testBit_two_pow_mul_add s l1, Nat.testBit_two_pow_mul_add _ l1]
  by_cases h : j < x + 1
  · rw [if_pos h, if_pos h, Bool.and_self]
  · rw [if_neg h, if_neg h, Nat.testBit_two_pow_sub_succ hs, Nat.testBit_two_pow, decide_eq_false (show ¬ x = j by omega)]
    cases s.testBit (j - (x + 1)) <;> simp
theorem j_low {x : Int64} {m t : Nat} (h : x.toInt = (m : Int)) (hm : 0 < m) (e : m &&& (2 ^ 64 - m) = t) (ht : t < 2 ^ 62) : (x &&& -x).toInt = (t : Int) := by
  obtain ⟨e1, l1⟩ := jN_t h
  have e2 : jN (-x) = 2 ^ 64 - m := by
    unfold jN at *
    rw [Int64.toBitVec_neg, BitVec.toNat_neg, e1]
    exact Nat.mod_eq_of_lt (by omega)
  have e3 : jN (x &&& -x) = t := by
    unfold jN at *
    rw [Int64.toBitVec_and, BitVec.toNat_and, e1, e2, e]
  rw [t_jN (by rw [e3]; omega), e3]
/-- the lowest of a rising list: taken off, and alone -/
theorem jL_low {x : Nat} {r : List Nat} (h : ris (x :: r)) : jL (x :: r) &&& (jL (x :: r) - 1) = jL r ∧ jL (x :: r) &&& (2 ^ 64 - jL (x :: r)) = 2 ^ x ∧ 0 < jL (x :: r) ∧ jL (x :: r) < 2 ^ 35 := by
  obtain ⟨⟨h1, h2⟩, h3⟩ := id h
  obtain ⟨s, e⟩ := jL_mul (L := r) (x := x) h2
  have b := jL_le (L := x :: r) (x := 0) (by omega) (fun _ _ => Nat.zero_le _) h
  have p := Nat.two_pow_pos x
  have e2 : jL (x :: r) = 2 ^ (x + 1) * s + 2 ^ x := by
    show 2 ^ x + jL r = _
    rw [e]
    omega
  have hs : s < 2 ^ (63 - x) := by
    have e1 : 2 ^ (x + 1) * 2 ^ (63 - x) = 2 ^ 64 := by rw [← Nat.pow_add, show x + 1 + (63 - x) = 64 by omega]
    have e3 : 2 ^ (x + 1) * s < 2 ^ (x + 1) * 2 ^ (63 - x) := by rw [e1]; omega
    exact Nat.lt_of_mul_lt_mul_left e3
  refine ⟨?_, ?_, by omega, by omega⟩
  · rw [e2, show 2 ^ (x + 1) * s + 2 ^ x - 1 = 2 ^ (x + 1) * s + (2 ^ x - 1) by omega, low1, e]
  · rw [e2]
    exact low2 (by omega) hs
/-! ===== the bits of a long counted ===== -/
def jush (x : Int64) (y : Int32) : Int64 := (x.toUInt64 >>> (y.toInt64.toUInt64 &&& Int64.toUInt64 63)).toInt64
theorem xlushr {M : amM} {pc a b d : Nat} {L : List (Option Value)} {st : List Value} {hp : amH} {Q : xQ} (q : Nat) {x : Int64} {y : Int32} (h : xI M pc .lushr a b) (e : q = pc + 1) (hw : xV d M q L (.long (jush x y) :: st) hp Q) : xV d M pc L (.int y :: .long x :: st) hp Q := by
  refine xstep h (fun cl hl => ⟨cl, ?_, hl⟩) hw
  subst e
  simp [amDo, amStep, amLI, jush]
theorem j_eq {x y : Int64} (h : x.toInt = y.toInt) : x = y := Int64.toInt_inj.mp h
def bj1 (x : Int64) : Int64 := x - (jush x 1 &&& 6148914691236517205)
def bj2 (x : Int64) : Int64 := (x &&& 3689348814741910323) + (jush x 2 &&& 3689348814741910323)
def bj3 (x : Int64) : Int64 := (x + jush x 4) &&& 1085102592571150095
def bjS (k : Int32) (x : Int64) : Int64 := x + jush x k
def bcJF (x : Int64) : Int32 := (bjS 32 (bjS 16 (bjS 8 (bj3 (bj2 (bj1 x)))))).toInt32 &&& 127
theorem bj_pow : ∀ x : Fin 36, (bcJF (Int64.ofNat (2 ^ x.1 - 1))).toInt = (x.1 : Int) := by decide +kernel
theorem u344 : bUp 0 am_m344.1 = true := by decide +kernel
theorem k_bcJ {d p : Nat} {hp : amH} {R : xQ} {x : Int64} (hx : x.toInt = ((2 ^ p - 1 : Nat) : Int)) (hp36 : p < 36) (hR : ∀ r : Int32, r.toInt = (p : Int) → R (.inl (some (.int r))) hp) : xK d 344 [.long x] hp R := by
  have q := bj_pow ⟨p, hp36⟩
  have l1 : 2 ^ p ≤ 2 ^ 35 := Nat.pow_le_pow_right (by decide) (by omega)
  have ex : x = Int64.ofNat (2 ^ p - 1) := j_eq (by rw [hx, Int64.toInt_ofNat_of_lt (by omega)])
  have q : (bcJF (Int64.ofNat (2 ^ p - 1))).toInt = (p : Int) := q
  rw [← ex] at q
  refine xinJ (M := am_m344) rfl rfl rfl ?_
  refine xlld 1 ⟨u344, _, rfl⟩ rfl rfl ?_
  refine xlld 2 ⟨u344, _, rfl⟩ rfl rfl ?_
  refine xcst 3 (1) ⟨u344, _, rfl⟩ rfl (by decide) (fun z2 h2 => ?_)
  obtain rfl : z2 = (1 : Int32) := x_eq.mpr (by rw [h2]; decide)
  refine xlushr 4 ⟨u344, _, rfl⟩ rfl ?_
  refine xldc2 7 (6148914691236517205) ⟨u344, _, rfl⟩ rfl (by decide +kernel) (fun z4 h4 => ?_)
  obtain rfl : z4 = (6148914691236517205 : Int64) := j_eq (by rw [h4]; decide +kernel)
  refine xland 8 ⟨u344, _, rfl⟩ rfl ?_
  refine xlsub 9 ⟨u344, _, rfl⟩ rfl ?_
  refine xlst 10 ⟨u344, _, rfl⟩ rfl rfl ?_
  refine xlld 11 ⟨u344, _, rfl⟩ rfl rfl ?_
  refine xldc2 14 (3689348814741910323) ⟨u344, _, rfl⟩ rfl (by decide +kernel) (fun z11 h11 => ?_)
  obtain rfl : z11 = (3689348814741910323 : Int64) := j_eq (by rw [h11]; decide +kernel)
  refine xland 15 ⟨u344, _, rfl⟩ rfl ?_
  refine xlld 16 ⟨u344, _, rfl⟩ rfl rfl ?_
  refine xcst 17 (2) ⟨u344, _, rfl⟩ rfl (by decide) (fun z16 h16 => ?_)
  obtain rfl : z16 = (2 : Int32) := x_eq.mpr (by rw [h16]; decide)
  refine xlushr 18 ⟨u344, _, rfl⟩ rfl ?_
  refine xldc2 21 (3689348814741910323) ⟨u344, _, rfl⟩ rfl (by decide +kernel) (fun z18 h18 => ?_)
  obtain rfl : z18 = (3689348814741910323 : Int64) := j_eq (by rw [h18]; decide +kernel)
  refine xland 22 ⟨u344, _, rfl⟩ rfl ?_
  refine xladd 23 ⟨u344, _, rfl⟩ rfl ?_
  refine xlst 24 ⟨u344, _, rfl⟩ rfl rfl ?_
  refine xlld 25 ⟨u344, _, rfl⟩ rfl rfl ?_
  refine xlld 26 ⟨u344, _, rfl⟩ rfl rfl ?_
  refine xcst 27 (4) ⟨u344, _, rfl⟩ rfl (by decide) (fun z26 h26 => ?_)
  obtain rfl : z26 = (4 : Int32) := x_eq.mpr (by rw [h26]; decide)
  refine xlushr 28 ⟨u344, _, rfl⟩ rfl ?_
  refine xladd 29 ⟨u344, _, rfl⟩ rfl ?_
  refine xldc2 32 (1085102592571150095) ⟨u344, _, rfl⟩ rfl (by decide +kernel) (fun z29 h29 => ?_)
  obtain rfl : z29 = (1085102592571150095 : Int64) := j_eq (by rw [h29]; decide +kernel)
  refine xland 33 ⟨u344, _, rfl⟩ rfl ?_
  refine xlst 34 ⟨u344, _, rfl⟩ rfl rfl ?_
  refine xlld 35 ⟨u344, _, rfl⟩ rfl rfl ?_
  refine xlld 36 ⟨u344, _, rfl⟩ rfl rfl ?_
  refine xbip 38 (8) ⟨u344, _, rfl⟩ rfl (by decide) (fun z36 h36 => ?_)
  obtain rfl : z36 = (8 : Int32) := x_eq.mpr (by rw [h36]; decide)
  refine xlushr 39 ⟨u344, _, rfl⟩ rfl ?_
  refine xladd 40 ⟨u344, _, rfl⟩ rfl ?_
  refine xlst 41 ⟨u344, _, rfl⟩ rfl rfl ?_
  refine xlld 42 ⟨u344, _, rfl⟩ rfl rfl ?_
  refine xlld 43 ⟨u344, _, rfl⟩ rfl rfl ?_
  refine xbip 45 (16) ⟨u344, _, rfl⟩ rfl (by decide) (fun z43 h43 => ?_)
  obtain rfl : z43 = (16 : Int32) := x_eq.mpr (by rw [h43]; decide)
  refine xlushr 46 ⟨u344, _, rfl⟩ rfl ?_
  refine xladd 47 ⟨u344, _, rfl⟩ rfl ?_
  refine xlst 48 ⟨u344, _, rfl⟩ rfl rfl ?_
  refine xlld 49 ⟨u344, _, rfl⟩ rfl rfl ?_
  refine xlld 50 ⟨u344, _, rfl⟩ rfl rfl ?_
  refine xbip 52 (32) ⟨u344, _, rfl⟩ rfl (by decide) (fun z50 h50 => ?_)
  obtain rfl : z50 = (32 : Int32) := x_eq.mpr (by rw [h50]; decide)
  refine xlushr 53 ⟨u344, _, rfl⟩ rfl ?_
  refine xladd 54 ⟨u344, _, rfl⟩ rfl ?_
  refine xlst 55 ⟨u344, _, rfl⟩ rfl rfl ?_
  refine xlld 56 ⟨u344, _, rfl⟩ rfl rfl ?_
  refine xl2i 57 ⟨u344, _, rfl⟩ rfl ?_
  refine xbip 59 (127) ⟨u344, _, rfl⟩ rfl (by decide) (fun z57 h57 => ?_)
  obtain rfl : z57 = (127 : Int32) := x_eq.mpr (by rw [h57]; decide)
  refine xand 60 ⟨u344, _, rfl⟩ rfl ?_
  exact xret ⟨u344, _, rfl⟩ rfl (hR (bcJF x) q)
end
/-! ##### 19.m.083.38f ##### -/
section
/-! ===== the class reads its quadrilaterals; exchanges planned ===== -/
theorem u64 : bUp 0 am_m64.1 = true := by decide +kernel
theorem u60 : bUp 0 am_m60.1 = true := by decide +kernel
theorem u59 : bUp 0 am_m59.1 = true := by decide +kernel
theorem u46 : bUp 0 am_m46.1 = true := by decide +kernel
theorem u47 : bUp 0 am_m47.1 = true := by decide +kernel
theorem u66 : bUp 0 am_m66.1 = true := by decide +kernel
theorem k_mkQ {d q : Nat} {hp : amH} {R : xQ} {a : Int32} (hH : bHk 84 bTT hp) (ha : a.toInt = (q : Int)) (hq : (q : Int) < rN hp 49 0) (hR : ∀ r : Int64, r.toInt = rJ hp 50 q → R (.inl (some (.long r))) hp) : xK d 64 [.ref 49, .int a] hp R := by
  have q1 := rb_c hH (c := 49) (by decide) (show bTT 49 = some (4, 3, [.inl (2147483648, 2147483753), .inr (.inr [50]), .inr (.inr [51])]) from rfl) (f := 0) rfl (by decide)
  refine xin (M := am_m64) rfl rfl rfl ?_
  refine xild 1 ⟨u64, _, rfl⟩ rfl rfl ?_
  refine xif_lt 4 ⟨u64, _, rfl⟩ rfl (fun c1 => ?_) (fun c1 => ?_)
  · omega
  · refine xild 5 ⟨u64, _, rfl⟩ rfl rfl ?_
    refine xald 6 ⟨u64, _, rfl⟩ rfl rfl ?_
    refine xgetC 9 hH ⟨u64, _, rfl⟩ rfl (by decide) (by decide) rfl rfl (by decide) (fun z6 h6 => ?_)
    refine xcmp_ge 12 ⟨u64, _, rfl⟩ rfl (fun c9 => ?_) (fun c9 => ?_)
    · omega
    · refine xald 13 ⟨u64, _, rfl⟩ rfl rfl ?_
      refine xgetD 16 (50) hH ⟨u64, _, rfl⟩ rfl (by decide) (by decide) rfl rfl (by decide) ?_
      refine xild 17 ⟨u64, _, rfl⟩ rfl rfl ?_
      refine xlald 18 (a).toInt.toNat hH ⟨u64, _, rfl⟩ rfl (by decide) rfl (by omega) (by omega) (fun z17 h17 => ?_)
      refine xgoto ⟨u64, _, rfl⟩ ?_
      exact xretJ ⟨u64, _, rfl⟩ rfl (hR _ (by rw [h17, show a.toInt.toNat = q by omega]))
theorem k_ptQ {d q : Nat} {hp : amH} {R : xQ} {a : Int32} (hH : bHk 84 bTT hp) (ha : a.toInt = (q : Int)) (hq : (q : Int) < rN hp 49 0) (hR : ∀ r : Int32, r.toInt = rN hp 51 q → R (.inl (some (.int r))) hp) : xK d 60 [.ref 49, .int a] hp R := by
  have q1 := rb_c hH (c := 49) (by decide) (show bTT 49 = some (4, 3, [.inl (2147483648, 2147483753), .inr (.inr [50]), .inr (.inr [51])]) from rfl) (f := 0) rfl (by decide)
  refine xin (M := am_m60) rfl rfl rfl ?_
  refine xild 1 ⟨u60, _, rfl⟩ rfl rfl ?_
  refine xif_lt 4 ⟨u60, _, rfl⟩ rfl (fun c1 => ?_) (fun c1 => ?_)
  · omega
  · refine xild 5 ⟨u60, _, rfl⟩ rfl rfl ?_
    refine xald 6 ⟨u60, _, rfl⟩ rfl rfl ?_
    refine xgetC 9 hH ⟨u60, _, rfl⟩ rfl (by decide) (by decide) rfl rfl (by decide) (fun z6 h6 => ?_)
    refine xcmp_ge 12 ⟨u60, _, rfl⟩ rfl (fun c9 => ?_) (fun c9 => ?_)
    · omega
    · refine xald 13 ⟨u60, _, rfl⟩ rfl rfl ?_
      refine xgetD 16 (51) hH ⟨u60, _, rfl⟩ rfl (by decide) (by decide) rfl rfl (by decide) ?_
      refine xild 17 ⟨u60, _, rfl⟩ rfl rfl ?_
      refine xiald 18 (a).toInt.toNat hH ⟨u60, _, rfl⟩ rfl (by decide) rfl (by omega) (by omega) (fun z17 h17 => ?_)
      refine xgoto ⟨u60, _, rfl⟩ ?_
      exact xret ⟨u60, _, rfl⟩ rfl (hR _ (by rw [h17, show a.toInt.toNat = q by omega]))
theorem ris_drop : ∀ {L : List Nat} (t : Nat), ris L → ris (L.drop t)
  | [], t, _ => by rw [List.drop_nil]; trivial
  | x :: r, 0, h => h
  | x :: r, t + 1, h => ris_drop (L := r) t h.2
/-- the triple at a place of a quadrilateral -/
theorem l59 {d i : Nat} {Ls : List Nat} {hp : amH} {R : xQ} {a b : Int32} (hH : bHk 84 bTT hp) (hb : b.toInt = (i : Int)) (hi : i < Ls.length) (hLs : ris Ls) (hl : Ls.length ≤ 35)
    (hR : ∀ r : Int32, r.toInt = ((Ls.getD i 0 : Nat) : Int) → R (.inl (some (.int r))) hp) :
    ∀ (jj t : Nat) (w : Int64) (wt : Int32), wt.toInt = (t : Int) → t + jj = i → w.toInt = ((jL (Ls.drop t) : Nat) : Int) → xV (d + 1) am_m59 9 [some (.ref 49), some (.int a), some (.int b), some (.long w), none, some (.int wt)] [] hp R := by
  intro jj
  induction jj with
  | zero =>
    intro t w wt hwt hj hw
    have et : t = i := by omega
    subst et
    have ed : Ls.drop t = Ls.getD t 0 :: Ls.drop (t + 1) := by
      rw [List.drop_eq_getElem_cons hi, List.getD_eq_getElem?_getD, List.getElem?_eq_getElem hi]
      rfl
    have hr := ris_drop t hLs
    rw [ed] at hr hw
    obtain ⟨g1, g2, g3, g4⟩ := jL_low hr
    have g5 := hr.1.1
    generalize hgd : Ls.getD t 0 = x at *
    have p1 := Nat.two_pow_pos x
    have p2 : 2 ^ x ≤ 2 ^ 35 := Nat.pow_le_pow_right (by decide) (by omega)
    refine xild2 11 ⟨u59, _, rfl⟩ rfl rfl ?_
    refine xild 12 ⟨u59, _, rfl⟩ rfl rfl ?_
    refine xcmp_ge 15 ⟨u59, _, rfl⟩ rfl (fun c12 => ?_) (fun c12 => ?_)
    · refine xlld 28 ⟨u59, _, rfl⟩ rfl rfl ?_
      refine xlcst 29 (0) ⟨u59, _, rfl⟩ rfl (by decide) (fun z28 h28 => ?_)
      refine xlcmp 30 ⟨u59, _, rfl⟩ rfl (fun z29 h29 => ?_)
      refine xif_ne 33 ⟨u59, _, rfl⟩ rfl (fun c30 => ?_) (fun c30 => ?_)
      · refine xlld 38 ⟨u59, _, rfl⟩ rfl rfl ?_
        refine xlld 39 ⟨u59, _, rfl⟩ rfl rfl ?_
        refine xlneg 40 ⟨u59, _, rfl⟩ rfl ?_
        refine xland 41 ⟨u59, _, rfl⟩ rfl ?_
        have lo := j_low hw g3 g2 (by omega)
        refine xlcst 42 (1) ⟨u59, _, rfl⟩ rfl (by decide) (fun z41 h41 => ?_)
        refine xlsub 43 ⟨u59, _, rfl⟩ rfl ?_
        have lp := j_sub lo (b := 1) h41 (by omega)
        refine xcallS 46 [.long _] [] hH ⟨u59, _, rfl⟩ rfl rfl rfl rfl rfl (k_bcJ lp (by omega) (fun z43 h43 => ⟨_, rfl, ?_⟩))
        exact xret ⟨u59, _, rfl⟩ rfl (hR _ h43)
      · omega
    · omega
  | succ jj ih =>
    intro t w wt hwt hj hw
    have ht : t < Ls.length := by omega
    have ed : Ls.drop t = Ls.getD t 0 :: Ls.drop (t + 1) := by
      rw [List.drop_eq_getElem_cons ht, List.getD_eq_getElem?_getD, List.getElem?_eq_getElem ht]
      rfl
    have hr := ris_drop t hLs
    rw [ed] at hr hw
    obtain ⟨g1, g2, g3, g4⟩ := jL_low hr
    refine xild2 11 ⟨u59, _, rfl⟩ rfl rfl ?_
    refine xild 12 ⟨u59, _, rfl⟩ rfl rfl ?_
    refine xcmp_ge 15 ⟨u59, _, rfl⟩ rfl (fun c12 => ?_) (fun c12 => ?_)
    · omega
    · refine xlld 16 ⟨u59, _, rfl⟩ rfl rfl ?_
      refine xlld 17 ⟨u59, _, rfl⟩ rfl rfl ?_
      refine xlcst 18 (1) ⟨u59, _, rfl⟩ rfl (by decide) (fun z17 h17 => ?_)
      refine xlsub 19 ⟨u59, _, rfl⟩ rfl ?_
      have ls := j_sub hw (b := 1) h17 (by omega)
      refine xland 20 ⟨u59, _, rfl⟩ rfl ?_
      have la := j_and hw ls
      rw [g1] at la
      refine xlst 21 ⟨u59, _, rfl⟩ rfl rfl ?_
      refine xinc 24 (1) ⟨u59, _, rfl⟩ rfl rfl rfl (by decide) (by omega) (by omega) (fun z21 h21 => ?_)
      refine xgoto ⟨u59, _, rfl⟩ ?_
      exact ih (t + 1) (w &&& (w - z17)) z21 (by omega) (by omega) la
theorem k_trQ {d i q : Nat} {Ls : List Nat} {hp : amH} {R : xQ} {a b : Int32} (hH : bHk 84 bTT hp) (ha : a.toInt = (q : Int)) (hq : (q : Int) < rN hp 49 0) (hm : rJ hp 50 q = ((jL Ls : Nat) : Int)) (hb : b.toInt = (i : Int)) (hi : i < Ls.length) (hLs : ris Ls) (hl : Ls.length ≤ 35)
    (hR : ∀ r : Int32, r.toInt = ((Ls.getD i 0 : Nat) : Int) → R (.inl (some (.int r))) hp) : xK (d + 1) 59 [.ref 49, .int a, .int b] hp R := by
  refine xin (M := am_m59) rfl rfl rfl ?_
  refine xald 1 ⟨u59, _, rfl⟩ rfl rfl ?_
  refine xild 2 ⟨u59, _, rfl⟩ rfl rfl ?_
  refine xcallC 5 (o := 49) [.int _] [] hH ⟨u59, _, rfl⟩ rfl rfl (by decide) rfl (by decide) rfl ⟨rfl, rfl, rfl, rfl⟩ rfl (k_mkQ hH ha hq (fun z2 h2 => ⟨_, rfl, ?_⟩))
  refine xlst 6 ⟨u59, _, rfl⟩ rfl rfl ?_
  refine xcst 7 (0) ⟨u59, _, rfl⟩ rfl (by decide) (fun z6 h6 => ?_)
  refine xist2 9 ⟨u59, _, rfl⟩ rfl rfl ?_
  exact l59 hH hb hi hLs hl hR i 0 _ _ h6 (by omega) (by rw [h2, hm]; rfl)
/-- a planned exchange: what goes, what comes -/
def exO (hp : amH) (A B : List Nat) : Prop := rN hp 62 0 = ((A.length : Nat) : Int) ∧ B.length = A.length ∧ ∀ i, i < A.length → rN hp 63 i = ((A.getD i 0 : Nat) : Int) ∧ rN hp 64 i = ((B.getD i 0 : Nat) : Int)
theorem exO_fr {hp hp1 : amH} {A B : List Nat} (h : exO hp A B) (F : ∀ c k, c = 62 ∨ c = 63 ∨ c = 64 → bFld hp1 c k = bFld hp c k) : exO hp1 A B :=
  ⟨(rN_eq (F 62 0 (Or.inl rfl))).trans h.1, h.2.1, fun i hi => ⟨(rN_eq (F 63 i (Or.inr (Or.inl rfl)))).trans (h.2.2 i hi).1, (rN_eq (F 64 i (Or.inr (Or.inr rfl)))).trans (h.2.2 i hi).2⟩⟩
theorem k_exB {d : Nat} {hp : amH} {R : xQ} {x : Int64} (hH : bHk 84 bTT hp) (hR : ∀ hp1, bHk 84 bTT hp1 → bFx [62] hp hp1 → exO hp1 [] [] → rJ hp1 62 1 = x.toInt → R (.inl none) hp1) : xK d 46 [.ref 62, .long x] hp R := by
  refine xinJ (M := am_m46) rfl rfl rfl ?_
  refine xald 1 ⟨u46, _, rfl⟩ rfl rfl ?_
  refine xcst 2 (0) ⟨u46, _, rfl⟩ rfl (by decide) (fun z1 h1 => ?_)
  refine xputC 5 hH ⟨u46, _, rfl⟩ rfl (by decide) (by decide) rfl rfl (by decide) ⟨rfl, rfl⟩ (by omega) (by omega) (fun hp2 hH2 U2 => ?_)
  have s2 := U2.1
  refine xald 6 ⟨u46, _, rfl⟩ rfl rfl ?_
  refine xlld 7 ⟨u46, _, rfl⟩ rfl rfl ?_
  refine xputJ 10 hH2 ⟨u46, _, rfl⟩ rfl (by decide) (by decide) rfl rfl (by decide) ⟨rfl, rfl⟩ (fun hp7 hH7 U7 => ?_)
  exact xretV ⟨u46, _, rfl⟩ rfl (hR _ hH7 ((bFx_U U2 (by simp)).trans (bY_bx U7 (by simp))) ⟨by rw [rV_ne U7 (by omega)]; exact s2.trans h1, rfl, fun i hi => absurd hi (Nat.not_lt_zero i)⟩ (rV_J U7))
theorem k_exP {d m n : Nat} {A B : List Nat} {hp : amH} {R : xQ} {a b : Int32} (hH : bHk 84 bTT hp) (hE : exO hp A B) (hl : A.length < 12) (ha : a.toInt = (m : Int)) (hb : b.toInt = (n : Int)) (hR : ∀ hp1, bHk 84 bTT hp1 → bFx [62, 63, 64] hp hp1 → exO hp1 (A ++ [m]) (B ++ [n]) → rJ hp1 62 1 = rJ hp 62 1 → R (.inl none) hp1) : xK d 47 [.ref 62, .int a, .int b] hp R := by
  obtain ⟨E1, E2, E3⟩ := hE
  have em := aMin a
  have ex := aMax a
  have fm := aMin b
  have fx := aMax b
  refine xin (M := am_m47) rfl rfl rfl ?_
  refine xald 1 ⟨u47, _, rfl⟩ rfl rfl ?_
  refine xgetC 4 hH ⟨u47, _, rfl⟩ rfl (by decide) (by decide) rfl rfl (by decide) (fun z1 h1 => ?_)
  refine xbip 6 (12) ⟨u47, _, rfl⟩ rfl (by decide) (fun z4 h4 => ?_)
  refine xcmp_ge 9 ⟨u47, _, rfl⟩ rfl (fun c6 => ?_) (fun c6 => ?_)
  · omega
  · refine xald 10 ⟨u47, _, rfl⟩ rfl rfl ?_
    refine xgetD 13 (63) hH ⟨u47, _, rfl⟩ rfl (by decide) (by decide) rfl rfl (by decide) ?_
    refine xald 14 ⟨u47, _, rfl⟩ rfl rfl ?_
    refine xgetC 17 hH ⟨u47, _, rfl⟩ rfl (by decide) (by decide) rfl rfl (by decide) (fun z14 h14 => ?_)
    refine xild 18 ⟨u47, _, rfl⟩ rfl rfl ?_
    refine xiast 19 (z14).toInt.toNat hH ⟨u47, _, rfl⟩ rfl (by decide) rfl (by omega) (by omega) (by omega) (by omega) (fun hp18 hH18 U18 => ?_)
    have s18 := U18.1
    have n18_62_0 : rN hp18 (62) 0 = rN hp (62) 0 := rU_ne U18 (by omega)
    refine xald 20 ⟨u47, _, rfl⟩ rfl rfl ?_
    refine xgetD 23 (64) hH18 ⟨u47, _, rfl⟩ rfl (by decide) (by decide) rfl rfl (by decide) ?_
    refine xald 24 ⟨u47, _, rfl⟩ rfl rfl ?_
    refine xgetC 27 hH18 ⟨u47, _, rfl⟩ rfl (by decide) (by decide) rfl rfl (by decide) (fun z24 h24 => ?_)
    refine xild 28 ⟨u47, _, rfl⟩ rfl rfl ?_
    refine xiast 29 (z24).toInt.toNat hH18 ⟨u47, _, rfl⟩ rfl (by decide) rfl (by omega) (by omega) (by omega) (by omega) (fun hp28 hH28 U28 => ?_)
    have s28 := U28.1
    have n28_62_0 : rN hp28 (62) 0 = rN hp18 (62) 0 := rU_ne U28 (by omega)
    refine xald 30 ⟨u47, _, rfl⟩ rfl rfl ?_
    refine xdup 31 ⟨u47, _, rfl⟩ rfl rfl ?_
    refine xgetC 34 hH28 ⟨u47, _, rfl⟩ rfl (by decide) (by decide) rfl rfl (by decide) (fun z31 h31 => ?_)
    refine xcst 35 (1) ⟨u47, _, rfl⟩ rfl (by decide) (fun z34 h34 => ?_)
    refine xadd 36 _ ⟨u47, _, rfl⟩ rfl rfl (by omega) (by omega) (fun z35 h35 => ?_)
    refine xputC 39 hH28 ⟨u47, _, rfl⟩ rfl (by decide) (by decide) rfl rfl (by decide) ⟨rfl, rfl⟩ (by omega) (by omega) (fun hp36 hH36 U36 => ?_)
    have s36 := U36.1
    refine xretV ⟨u47, _, rfl⟩ rfl (hR _ hH36 (((bFx_U U18 (by simp)).trans (bFx_U U28 (by simp))).trans (bFx_U U36 (by simp))) ⟨?_, by rw [List.length_append, List.length_append, E2]; rfl, fun i hi => ?_⟩ ?_)
    · rw [List.length_append, List.length_singleton]
      omega
    · rw [List.length_append, List.length_singleton] at hi
      have u18 := U18.1
      have u28 := U28.1
      by_cases g : i = A.length
      · subst g
        rw [gd_end, show A.length = B.length from E2.symm, gd_end, E2]
        refine ⟨?_, ?_⟩
        · rw [rU_ne U36 (by omega), rU_ne U28 (by omega), show A.length = z14.toInt.toNat by omega, u18]
          exact ha
        · rw [rU_ne U36 (by omega), show A.length = z24.toInt.toNat by omega, u28]
          exact hb
      · rw [gd_app (by omega), gd_app (by omega)]
        obtain ⟨k1, k2⟩ := E3 i (by omega)
        refine ⟨?_, ?_⟩
        · rw [rU_ne U36 (by omega), rU_ne U28 (by omega), rU_ne U18 (by omega)]
          exact k1
        · rw [rU_ne U36 (by omega), rU_ne U28 (by omega), rU_ne U18 (by omega)]
          exact k2
    · rw [rJ_ne U36 (by omega), rJ_ne U28 (by omega), rJ_ne U18 (by omega)]
end
/-! ##### 19.m.084.38g ##### -/
section
/-! ===== a quadrilateral's switch planned; an exchange made ===== -/
theorem jL_or {x : Nat} {r : List Nat} (h : ∀ y, y ∈ r → x < y) : jL (x :: r) = jL r ||| 2 ^ x := by
  obtain ⟨s, e⟩ := jL_mul (L := r) (x := x) h
  have l1 : 2 ^ x < 2 ^ (x + 1) := by rw [p2s]; have := Nat.two_pow_pos x; omega
  show 2 ^ x + jL r = _
  rw [e, ← Nat.two_pow_add_eq_or_of_lt l1, Nat.add_comm]
theorem jL_4 {i j k l : Nat} (h1 : i < j) (h2 : j < k) (h3 : k < l) : 2 ^ i ||| 2 ^ j ||| 2 ^ k ||| 2 ^ l = jL [i, j, k, l] := by
  rw [jL_or (fun y hy => by simp at hy; omega), jL_or (fun y hy => by simp at hy; omega), jL_or (fun y hy => by simp at hy; omega), jL_or (fun y hy => by simp at hy)]
  apply Nat.eq_of_testBit_eq
  intro u
  show _ = (0 ||| 2 ^ l ||| 2 ^ k ||| 2 ^ j ||| 2 ^ i).testBit u
  simp only [Nat.testBit_or, Nat.zero_testBit]
  cases (2 ^ i).testBit u <;> cases (2 ^ j).testBit u <;> cases (2 ^ k).testBit u <;> cases (2 ^ l).testBit u <;> rfl
/-- the numbers of a quadrilateral's triples -/
def qL (T : sT) (n : Nat) : List Nat := [n / 1225, n / 35 % 35, n % 35, ql T n]
/-- what is known of a quadrilateral by its place -/
theorem qd_at {hp : amH} {V : Nat} {T : sT} (hT : sOk V T) (hQ : qdN hp T 42875) {q n : Nat} (hq : q < nQ T) (hn : (fL (qdB T) 42875).getD q 0 = n) : n < 42875 ∧ qdB T n = true ∧ (q : Int) < rN hp 49 0 ∧ rJ hp 50 q = ((jL (qL T n) : Nat) : Int) ∧ rN hp 51 q = ((qU T n : Nat) : Int) ∧ ris (qL T n) ∧ ∀ t, t ∈ qL T n → t < (trL T 225).length := by
  obtain ⟨g1, g2, g3⟩ := fL_get (B := qdB T) 42875 q hq
  obtain ⟨Q1, Q2⟩ := hQ
  obtain ⟨k1, k2⟩ := Q2 q hq
  rw [hn] at g1 g2 k1 k2
  obtain ⟨⟨⟨b1, b2, b3, b4⟩, -⟩, ⟨l1, l2, l3⟩, -⟩ := qd_X hT g2 g1
  have l35 := trL_35 hT 225
  have hq : q < (fL (qdB T) 42875).length := hq
  refine ⟨g2, g1, by omega, by rw [k1, jL_4 l1 l2 l3]; rfl, k2, ⟨⟨by omega, fun y hy => by simp at hy; omega⟩, ⟨by omega, fun y hy => by simp at hy; omega⟩, ⟨by omega, fun y hy => by simp at hy; omega⟩, ⟨by omega, fun y hy => by simp at hy⟩, trivial⟩, fun t ht => ?_⟩
  unfold qL at ht
  simp only [List.mem_cons, List.not_mem_nil, or_false] at ht
  rcases ht with rfl | rfl | rfl | rfl <;> assumption
theorem tk_succ {L : List Nat} {t : Nat} (h : t < L.length) : L.take (t + 1) = L.take t ++ [L.getD t 0] := by
  rw [List.take_succ, List.getD_eq_getElem?_getD, List.getElem?_eq_getElem h]
  rfl
theorem qC_get {T : sT} {n t : Nat} (h : t < 4) : (qC T n).getD t 0 = ndif (qU T n) (mN T ((qL T n).getD t 0)) ∧ (qG T n).getD t 0 = mN T ((qL T n).getD t 0) := by
  have : t = 0 ∨ t = 1 ∨ t = 2 ∨ t = 3 := by omega
  rcases this with rfl | rfl | rfl | rfl <;> exact ⟨rfl, rfl⟩
theorem l66E {d q n V : Nat} {T : sT} {hp0 : amH} {R : xQ} {a : Int32} (hT : sOk V T) (hQ0 : qdN hp0 T 42875) (hL0 : lsN hp0 3 T 225) (hq : q < nQ T) (hn : (fL (qdB T) 42875).getD q 0 = n) (ha : a.toInt = (q : Int))
    (hR : ∀ hp1, bHk 84 bTT hp1 → bFx [62, 63, 64] hp0 hp1 → exO hp1 (qG T n) (qC T n) → rJ hp1 62 1 = ((jL (qL T n) : Nat) : Int) → R (.inl none) hp1) :
    ∀ (jj t : Nat) (wt : Int32) (v5 : Option Value) (hp : amH), wt.toInt = (t : Int) → t + jj = 4 → bHk 84 bTT hp → bFx [62, 63, 64] hp0 hp → exO hp ((qG T n).take t) ((qC T n).take t) → rJ hp 62 1 = ((jL (qL T n) : Nat) : Int) → xV (d + 2) am_m66 12 [some (.ref 49), some (.ref 3), some (.int a), some (.ref 62), some (.int wt), v5] [] hp R := by
  intro jj
  induction jj with
  | zero =>
    intro t wt v5 hp hwt hj hH hF hE hJ
    have et : t = 4 := by omega
    subst et
    have hE : exO hp (qG T n) (qC T n) := hE
    refine xild2 14 ⟨u66, _, rfl⟩ rfl rfl ?_
    refine xcst 15 (4) ⟨u66, _, rfl⟩ rfl (by decide) (fun z14 h14 => ?_)
    refine xcmp_ge 18 ⟨u66, _, rfl⟩ rfl (fun c15 => ?_) (fun c15 => ?_)
    · exact xretV ⟨u66, _, rfl⟩ rfl (hR _ hH hF hE hJ)
    · omega
  | succ jj ih =>
    intro t wt v5 hp hwt hj hH hF hE hJ
    have hQ : qdN hp T 42875 := qdN_fr hQ0 (fun c k hc => hF c k (by simp; omega))
    have hL : lsN hp 3 T 225 := lsN_fr hL0 (bFx_n hF (by simp)) (fun _ => bFx_n hF (by simp)) (fun _ => bFx_n hF (by simp))
    obtain ⟨n1, n2, n3, n4, n5, n6, n7⟩ := qd_at hT hQ hq hn
    have hmem : (qL T n).getD t 0 ∈ qL T n := by
      rw [List.getD_eq_getElem?_getD, List.getElem?_eq_getElem (show t < (qL T n).length by show t < 4; omega)]
      exact List.getElem_mem _
    have hlt := n7 _ hmem
    have ml := (mN_lt hT hlt).1
    obtain ⟨c1, c2⟩ := qC_get (T := T) (n := n) (t := t) (by omega)
    have uU : qU T n < 32768 := by
      obtain ⟨⟨⟨b1, b2, b3, b4⟩, -⟩, -, -, hRn⟩ := qd_X hT n1 n2
      unfold qU
      rw [hRn]
      exact Nat.or_lt_two_pow (n := 15) (Nat.or_lt_two_pow (n := 15) (mN_lt hT b1).1 (mN_lt hT b2).1) (mN_lt hT b4).1
    refine xild2 14 ⟨u66, _, rfl⟩ rfl rfl ?_
    refine xcst 15 (4) ⟨u66, _, rfl⟩ rfl (by decide) (fun z14 h14 => ?_)
    refine xcmp_ge 18 ⟨u66, _, rfl⟩ rfl (fun c15 => ?_) (fun c15 => ?_)
    · omega
    · refine xald 19 ⟨u66, _, rfl⟩ rfl rfl ?_
      refine xald 20 ⟨u66, _, rfl⟩ rfl rfl ?_
      refine xild 21 ⟨u66, _, rfl⟩ rfl rfl ?_
      refine xild2 23 ⟨u66, _, rfl⟩ rfl rfl ?_
      refine xcallC 26 (o := 49) [.int _, .int _] [.ref 3] hH ⟨u66, _, rfl⟩ rfl rfl (by decide) rfl (by decide) rfl ⟨rfl, rfl, rfl, rfl⟩ rfl (k_trQ hH ha n3 n4 hwt (i := t) (by show t < 4; omega) n6 (by show 4 ≤ 35; decide) (fun z23 h23 => ⟨_, rfl, ?_⟩))
      refine xcallC 29 (o := 3) [.int _] [] hH ⟨u66, _, rfl⟩ rfl rfl (by decide) rfl (by decide) rfl ⟨rfl, rfl, rfl, rfl⟩ rfl (k_setL hH hL h23 hlt (fun z26 h26 => ⟨_, rfl, ?_⟩))
      refine xist2 31 ⟨u66, _, rfl⟩ rfl rfl ?_
      refine xald 32 ⟨u66, _, rfl⟩ rfl rfl ?_
      refine xild2 34 ⟨u66, _, rfl⟩ rfl rfl ?_
      refine xald 35 ⟨u66, _, rfl⟩ rfl rfl ?_
      refine xild 36 ⟨u66, _, rfl⟩ rfl rfl ?_
      refine xcallC 39 (o := 49) [.int _] [.int _, .ref 62] hH ⟨u66, _, rfl⟩ rfl rfl (by decide) rfl (by decide) rfl ⟨rfl, rfl, rfl, rfl⟩ rfl (k_ptQ hH ha n3 (fun z36 h36 => ⟨_, rfl, ?_⟩))
      rw [n5] at h36
      refine xild2 41 ⟨u66, _, rfl⟩ rfl rfl ?_
      refine xcst 42 (-1) ⟨u66, _, rfl⟩ rfl (by decide) (fun z41 h41 => ?_)
      refine xxor 43 ⟨u66, _, rfl⟩ rfl ?_
      refine xand 44 ⟨u66, _, rfl⟩ rfl ?_
      refine xcallC 47 (o := 62) [.int _, .int _] [] hH ⟨u66, _, rfl⟩ rfl rfl (by decide) rfl (by decide) rfl ⟨rfl, rfl, rfl, rfl⟩ rfl (k_exP hH hE (m := mN T ((qL T n).getD t 0)) (n := ndif (qU T n) (mN T ((qL T n).getD t 0))) (by rw [List.length_take]; omega) h26 (i_nd h36 h26 uU (by omega) h41) (fun hp44 hH44 F44 E44 J44 => ⟨_, rfl, ?_⟩))
      rw [← c1, ← c2, ← tk_succ (show t < (qG T n).length by show t < 4; omega), ← tk_succ (show t < (qC T n).length by show t < 4; omega)] at E44
      refine xinc 50 (1) ⟨u66, _, rfl⟩ rfl rfl rfl (by decide) (by omega) (by omega) (fun z47 h47 => ?_)
      refine xgoto ⟨u66, _, rfl⟩ ?_
      exact ih (t + 1) z47 _ hp44 (by omega) (by omega) hH44 (hF.trans (F44.mono (by simp))) E44 (J44.trans hJ)
theorem k_plQ {d q n V : Nat} {T : sT} {hp : amH} {R : xQ} {a : Int32} (hH : bHk 84 bTT hp) (hT : sOk V T) (hQ : qdN hp T 42875) (hL : lsN hp 3 T 225) (hq : q < nQ T) (hn : (fL (qdB T) 42875).getD q 0 = n) (ha : a.toInt = (q : Int))
    (hR : ∀ hp1, bHk 84 bTT hp1 → bFx [62, 63, 64] hp hp1 → exO hp1 (qG T n) (qC T n) → rJ hp1 62 1 = ((jL (qL T n) : Nat) : Int) → R (.inl none) hp1) : xK (d + 2) 66 [.ref 49, .ref 3, .int a, .ref 62] hp R := by
  obtain ⟨n1, n2, n3, n4, n5, n6, n7⟩ := qd_at hT hQ hq hn
  refine xin (M := am_m66) rfl rfl rfl ?_
  refine xald 1 ⟨u66, _, rfl⟩ rfl rfl ?_
  refine xald 2 ⟨u66, _, rfl⟩ rfl rfl ?_
  refine xild 3 ⟨u66, _, rfl⟩ rfl rfl ?_
  refine xcallC 6 (o := 49) [.int _] [.ref 62] hH ⟨u66, _, rfl⟩ rfl rfl (by decide) rfl (by decide) rfl ⟨rfl, rfl, rfl, rfl⟩ rfl (k_mkQ hH ha n3 (fun z3 h3 => ⟨_, rfl, ?_⟩))
  refine xcallC 9 (o := 62) [.long _] [] hH ⟨u66, _, rfl⟩ rfl rfl (by decide) rfl (by decide) rfl ⟨rfl, rfl, rfl, rfl⟩ rfl (k_exB hH (fun hp6 hH6 F6 E6 J6 => ⟨_, rfl, ?_⟩))
  refine xcst 10 (0) ⟨u66, _, rfl⟩ rfl (by decide) (fun z9 h9 => ?_)
  refine xist2 12 ⟨u66, _, rfl⟩ rfl rfl ?_
  refine xpad 1 ?_
  exact l66E hT (qdN_fr hQ (fun c k hc => F6 c k (by simp; omega))) (lsN_fr hL (bFx_n F6 (by simp)) (fun _ => bFx_n F6 (by simp)) (fun _ => bFx_n F6 (by simp))) hq hn ha (fun hp1 g1 g2 g3 g4 => hR hp1 g1 ((F6.mono (by simp)).trans g2) g3 g4) 4 0 _ _ hp6 (by omega) (by omega) hH6 bFx.refl E6 (by rw [J6, h3, n4])
/-- what a row of triples makes, one put behind the other -/
def cwM (V : Nat) (T : sT) (m : Nat) : Nat := cw V T (memN m 0).toNat (memN m 1).toNat (memN m 2).toNat
def cwL (V : Nat) (T : sT) : List Nat → Nat
  | [] => 0
  | m :: r => cwM V (uPut T m) m + cwL V (uPut T m) r
theorem cw_le {V : Nat} {T : sT} {x y z : Nat} : cw V T x y z ≤ V := by
  have := sm_le (f := fun a => iv (¬ T x a = -1 ∧ ¬ a = y ∧ ¬ a = z ∧ ¬ T y a = -1 ∧ T y a = T z (T x a).toNat)) (g := fun _ => 1) V (fun i _ => iv_le)
  rw [sm_const] at this
  unfold cw
  omega
theorem cwL_le {V : Nat} (hV : V ≤ 15) : ∀ (L : List Nat) (T : sT), cwL V T L ≤ 15 * L.length
  | [], _ => Nat.zero_le _
  | m :: r, T => by
    have i := cwL_le hV r (uPut T m)
    have j : cwM V (uPut T m) m ≤ V := cw_le
    show cwM V (uPut T m) m + cwL V (uPut T m) r ≤ 15 * (r.length + 1)
    omega
theorem cwM_3 {V x y z : Nat} {T : sT} (h1 : x < y) (h2 : y < z) (h3 : z < 15) : cwM V T (m3 x y z) = cw V T x y z := by
  obtain ⟨a, b, c⟩ := mem3 h1 h2 h3
  unfold cwM
  rw [a, b, c, Int.toNat_natCast, Int.toNat_natCast, Int.toNat_natCast]
theorem nQ_cwL {V : Nat} : ∀ {L : List Nat} {T : sT}, sOk V T → ptOk V T L → nQ (uPs T L) = nQ T + cwL V T L
  | [], T, _, _ => (Nat.add_zero (nQ T)).symm
  | m :: r, T, hT, h => by
    obtain ⟨⟨x, y, z, h1, h2, h3, e, f⟩, h4⟩ := id h
    have hV := hT.2.1
    have i := nQ_cwL (L := r) (sOk_uPut hT h.1) h4
    have j := nQ_put hT (x := x) (y := y) (z := z) (by omega) (by omega) h3 (by omega) (by omega) (by omega) f
    have k : uPut T m = sPut T x y z := by rw [e]; exact uPut_3 T (by omega) (by omega) (by omega) (by omega) (by omega) (by omega)
    have w : cwM V (uPut T m) m = cw V (sPut T x y z) x y z := by rw [k, e, cwM_3 h1 h2 (by omega)]
    show nQ (uPs (uPut T m) r) = nQ T + (cwM V (uPut T m) m + cwL V (uPut T m) r)
    rw [← k] at j w
    rw [i, w]
    omega
theorem u48 : bUp 0 am_m48.1 = true := by decide +kernel
theorem l48a {d o V : Nat} {T : sT} {G C : List Nat} {hp0 : amH} {R : xQ} (ho : bo o) (hE0 : exO hp0 G C)
    (hQ : ∀ hp1 w, bHk 84 bTT hp1 → bFx [o + 1, o + 3] hp0 hp1 → bdOk hp1 o V (uTs T G) → xV (d + 3) am_m48 35 [some (.ref 62), some (.ref o), some (.int w)] [] hp1 R) :
    ∀ (B A : List Nat) (wt : Int32) (hp : amH), G = A ++ B → wt.toInt = ((A.length : Nat) : Int) → tkOk (uTs T A) B → bHk 84 bTT hp → bFx [o + 1, o + 3] hp0 hp → bdOk hp o V (uTs T A) → xV (d + 3) am_m48 2 [some (.ref 62), some (.ref o), some (.int wt)] [] hp R := by
  have T62 := (show bTT 62 = some (2, 4, [.inl (2147483648, 2147483660), .inr (.inl 1), .inr (.inr [63]), .inr (.inr [64])]) from rfl)
  intro B
  induction B with
  | nil =>
    intro A wt hp hG hwt hk hH hF hB
    rw [List.append_nil] at hG
    subst hG
    have hE : exO hp G C := exO_fr hE0 (fun c k hc => hF c k (by rcases ho with rfl | rfl <;> simp <;> omega))
    have E1 := hE.1
    refine xild 3 ⟨u48, _, rfl⟩ rfl rfl ?_
    refine xald 4 ⟨u48, _, rfl⟩ rfl rfl ?_
    refine xgetC 7 hH ⟨u48, _, rfl⟩ rfl (by decide) (by decide) rfl rfl (by decide) (fun z4 h4 => ?_)
    refine xcmp_ge 10 ⟨u48, _, rfl⟩ rfl (fun c7 => ?_) (fun c7 => ?_)
    · exact hQ hp _ hH hF hB
    · omega
  | cons m r ih =>
    intro A wt hp hG hwt hk hH hF hB
    have hE : exO hp G C := exO_fr hE0 (fun c k hc => hF c k (by rcases ho with rfl | rfl <;> simp <;> omega))
    have E1 := hE.1
    have q1 := rb_c hH (c := 62) (by decide) T62 (f := 0) rfl (by decide)
    have hlen : G.length = A.length + (r.length + 1) := by rw [hG, List.length_append, List.length_cons]
    obtain ⟨⟨x, y, z, g1, g2, g3, g4⟩, hk2⟩ := hk
    have e3 := (hE.2.2 A.length (by omega)).1
    rw [hG, gt_app, g3] at e3
    have eT : uTake (uTs T A) m = sTake (uTs T A) x y z := by rw [g3]; exact uTake_3 _
    have eA : uTs T (A ++ [m]) = sTake (uTs T A) x y z := by rw [uTs_app]; exact eT
    rw [eT, ← eA] at hk2
    refine xild 3 ⟨u48, _, rfl⟩ rfl rfl ?_
    refine xald 4 ⟨u48, _, rfl⟩ rfl rfl ?_
    refine xgetC 7 hH ⟨u48, _, rfl⟩ rfl (by decide) (by decide) rfl rfl (by decide) (fun z4 h4 => ?_)
    refine xcmp_ge 10 ⟨u48, _, rfl⟩ rfl (fun c7 => ?_) (fun c7 => ?_)
    · omega
    · refine xild 11 ⟨u48, _, rfl⟩ rfl rfl ?_
      refine xald 12 ⟨u48, _, rfl⟩ rfl rfl ?_
      refine xgetD 15 (63) hH ⟨u48, _, rfl⟩ rfl (by decide) (by decide) rfl rfl (by decide) ?_
      refine xlen 16 hH ⟨u48, _, rfl⟩ rfl (by decide) rfl (by decide) (by decide) (fun z15 h15 => ?_)
      refine xcmp_ge 19 ⟨u48, _, rfl⟩ rfl (fun c16 => ?_) (fun c16 => ?_)
      · omega
      · refine xald 20 ⟨u48, _, rfl⟩ rfl rfl ?_
        refine xald 21 ⟨u48, _, rfl⟩ rfl rfl ?_
        refine xgetD 24 (63) hH ⟨u48, _, rfl⟩ rfl (by decide) (by decide) rfl rfl (by decide) ?_
        refine xild 25 ⟨u48, _, rfl⟩ rfl rfl ?_
        refine xiald 26 (wt).toInt.toNat hH ⟨u48, _, rfl⟩ rfl (by decide) rfl (by omega) (by omega) (fun z25 h25 => ?_)
        refine xcallC 29 (o := o) [.int _] [] hH ⟨u48, _, rfl⟩ rfl rfl (bo_lt ho) (bo_T ho) (by decide) rfl ⟨rfl, rfl, rfl, rfl⟩ rfl (k_bdropU ho hH hB (a := x) (b := y) (c := z) (by rw [h25, show wt.toInt.toNat = A.length by omega]; exact e3) g4 (fun hp26 hH26 F26 B26 => ⟨_, rfl, ?_⟩))
        rw [← eA] at B26
        refine xinc 32 (1) ⟨u48, _, rfl⟩ rfl rfl rfl (by decide) (by omega) (by omega) (fun z29 h29 => ?_)
        refine xgoto ⟨u48, _, rfl⟩ ?_
        exact ih (A ++ [m]) z29 hp26 (by rw [hG, List.append_assoc]; rfl) (by rw [List.length_append, List.length_singleton]; omega) hk2 hH26 (hF.trans F26) B26
theorem l48b {d o V : Nat} {T : sT} {G C : List Nat} {hp0 : amH} {R : xQ} {tot : Nat} (ho : bo o) (hE0 : exO hp0 G C) (htot : tot ≤ 180)
    (hR : ∀ (z : Int32) hp1, bHk 84 bTT hp1 → bFx [o + 1, o + 3] hp0 hp1 → bdOk hp1 o V (uPs T C) → z.toInt = (tot : Int) → R (.inl (some (.int z))) hp1) :
    ∀ (B A : List Nat) (w wt : Int32) (hp : amH), C = A ++ B → wt.toInt = ((A.length : Nat) : Int) → ptOk V (uPs T A) B → w.toInt + ((cwL V (uPs T A) B : Nat) : Int) = (tot : Int) → 0 ≤ w.toInt → bHk 84 bTT hp → bFx [o + 1, o + 3] hp0 hp → bdOk hp o V (uPs T A) → xV (d + 3) am_m48 39 [some (.ref 62), some (.ref o), some (.int w), some (.int wt)] [] hp R := by
  have T62 := (show bTT 62 = some (2, 4, [.inl (2147483648, 2147483660), .inr (.inl 1), .inr (.inr [63]), .inr (.inr [64])]) from rfl)
  intro B
  induction B with
  | nil =>
    intro A w wt hp hG hwt hk hw h0 hH hF hB
    rw [List.append_nil] at hG
    subst hG
    have hE : exO hp G C := exO_fr hE0 (fun c k hc => hF c k (by rcases ho with rfl | rfl <;> simp <;> omega))
    obtain ⟨E1, E2, -⟩ := hE
    have hw : w.toInt + ((0 : Nat) : Int) = (tot : Int) := hw
    refine xild 40 ⟨u48, _, rfl⟩ rfl rfl ?_
    refine xald 41 ⟨u48, _, rfl⟩ rfl rfl ?_
    refine xgetC 44 hH ⟨u48, _, rfl⟩ rfl (by decide) (by decide) rfl rfl (by decide) (fun z41 h41 => ?_)
    refine xcmp_ge 47 ⟨u48, _, rfl⟩ rfl (fun c44 => ?_) (fun c44 => ?_)
    · refine xild 86 ⟨u48, _, rfl⟩ rfl rfl ?_
      exact xret ⟨u48, _, rfl⟩ rfl (hR _ hp hH hF hB (by omega))
    · omega
  | cons m r ih =>
    intro A w wt hp hG hwt hk hw h0 hH hF hB
    have hE : exO hp G C := exO_fr hE0 (fun c k hc => hF c k (by rcases ho with rfl | rfl <;> simp <;> omega))
    obtain ⟨E1, E2, E3⟩ := hE
    have q1 := rb_c hH (c := 62) (by decide) T62 (f := 0) rfl (by decide)
    have hlen : C.length = A.length + (r.length + 1) := by rw [hG, List.length_append, List.length_cons]
    have hT := hB.2.1
    have hV := hT.2.1
    obtain ⟨⟨x, y, z, g1, g2, g3, g4, g5⟩, hk2⟩ := hk
    have e3 := (E3 A.length (by omega)).2
    rw [hG, gt_app, g4] at e3
    have eT : uPut (uPs T A) m = sPut (uPs T A) x y z := by rw [g4]; exact uPut_3 _ (by omega) (by omega) (by omega) (by omega) (by omega) (by omega)
    have eA : uPs T (A ++ [m]) = sPut (uPs T A) x y z := by rw [uPs_app]; exact eT
    have ec : cwL V (uPs T A) (m :: r) = cw V (sPut (uPs T A) x y z) x y z + cwL V (uPs T (A ++ [m])) r := by
      show cwM V (uPut (uPs T A) m) m + cwL V (uPut (uPs T A) m) r = _
      rw [eT, eA, g4, cwM_3 g1 g2 (by omega)]
    rw [ec] at hw
    rw [eT, ← eA] at hk2
    refine xild 40 ⟨u48, _, rfl⟩ rfl rfl ?_
    refine xald 41 ⟨u48, _, rfl⟩ rfl rfl ?_
    refine xgetC 44 hH ⟨u48, _, rfl⟩ rfl (by decide) (by decide) rfl rfl (by decide) (fun z41 h41 => ?_)
    refine xcmp_ge 47 ⟨u48, _, rfl⟩ rfl (fun c44 => ?_) (fun c44 => ?_)
    · omega
    · refine xild 48 ⟨u48, _, rfl⟩ rfl rfl ?_
      refine xald 49 ⟨u48, _, rfl⟩ rfl rfl ?_
      refine xgetD 52 (64) hH ⟨u48, _, rfl⟩ rfl (by decide) (by decide) rfl rfl (by decide) ?_
      refine xlen 53 hH ⟨u48, _, rfl⟩ rfl (by decide) rfl (by decide) (by decide) (fun z52 h52 => ?_)
      refine xcmp_ge 56 ⟨u48, _, rfl⟩ rfl (fun c53 => ?_) (fun c53 => ?_)
      · omega
      · refine xald 57 ⟨u48, _, rfl⟩ rfl rfl ?_
        refine xald 58 ⟨u48, _, rfl⟩ rfl rfl ?_
        refine xgetD 61 (64) hH ⟨u48, _, rfl⟩ rfl (by decide) (by decide) rfl rfl (by decide) ?_
        refine xild 62 ⟨u48, _, rfl⟩ rfl rfl ?_
        refine xiald 63 (wt).toInt.toNat hH ⟨u48, _, rfl⟩ rfl (by decide) rfl (by omega) (by omega) (fun z62 h62 => ?_)
        refine xcallC 66 (o := o) [.int _] [] hH ⟨u48, _, rfl⟩ rfl rfl (bo_lt ho) (bo_T ho) (by decide) rfl ⟨rfl, rfl, rfl, rfl⟩ rfl (k_bputU ho hH hB (a := x) (b := y) (c := z) (by rw [h62, show wt.toInt.toNat = A.length by omega]; exact e3) (by omega) (by omega) (by omega) (by omega) (by omega) (by omega) g5 (fun hp63 hH63 F63 B63 => ⟨_, rfl, ?_⟩))
        have e64 : rN hp63 64 A.length = rN hp 64 A.length := bFx_n F63 (by rcases ho with rfl | rfl <;> simp)
        refine xild 67 ⟨u48, _, rfl⟩ rfl rfl ?_
        refine xald 68 ⟨u48, _, rfl⟩ rfl rfl ?_
        refine xald 69 ⟨u48, _, rfl⟩ rfl rfl ?_
        refine xgetD 72 (64) hH63 ⟨u48, _, rfl⟩ rfl (by decide) (by decide) rfl rfl (by decide) ?_
        refine xild 73 ⟨u48, _, rfl⟩ rfl rfl ?_
        refine xiald 74 (wt).toInt.toNat hH63 ⟨u48, _, rfl⟩ rfl (by decide) rfl (by omega) (by omega) (fun z73 h73 => ?_)
        refine xcallS 77 [.ref (o), .int _] [.int _] hH63 ⟨u48, _, rfl⟩ rfl rfl rfl rfl (Bool.or_true _) (k_cnt ho hH63 B63 (x := x) (y := y) (z := z) (by rw [h73, show wt.toInt.toNat = A.length by omega, e64]; exact e3) g1 g2 g3 (fun z74 h74 => ⟨_, rfl, ?_⟩))
        refine xadd 78 _ ⟨u48, _, rfl⟩ rfl rfl (by omega) (by omega) (fun z77 h77 => ?_)
        refine xist 79 ⟨u48, _, rfl⟩ rfl rfl ?_
        refine xinc 82 (1) ⟨u48, _, rfl⟩ rfl rfl rfl (by decide) (by omega) (by omega) (fun z79 h79 => ?_)
        refine xgoto ⟨u48, _, rfl⟩ ?_
        exact ih (A ++ [m]) z77 z79 hp63 (by rw [hG, List.append_assoc]; rfl) (by rw [List.length_append, List.length_singleton]; omega) hk2 (by omega) (by omega) hH63 (hF.trans F63) (by rw [eA]; exact B63)
theorem k_exA {d o V : Nat} {T : sT} {G C : List Nat} {hp : amH} {R : xQ} (ho : bo o) (hH : bHk 84 bTT hp) (hE : exO hp G C) (hB : bdOk hp o V T) (hG : tkOk T G) (hC : ptOk V (uTs T G) C)
    (hR : ∀ (z : Int32) hp1, bHk 84 bTT hp1 → bFx [o + 1, o + 3] hp hp1 → bdOk hp1 o V (uPs (uTs T G) C) → z.toInt = ((cwL V (uTs T G) C : Nat) : Int) → R (.inl (some (.int z))) hp1) : xK (d + 3) 48 [.ref 62, .ref o] hp R := by
  have q1 := rb_c hH (c := 62) (by decide) (show bTT 62 = some (2, 4, [.inl (2147483648, 2147483660), .inr (.inl 1), .inr (.inr [63]), .inr (.inr [64])]) from rfl) (f := 0) rfl (by decide)
  have bc := cwL_le hB.2.1.2.1 C (uTs T G)
  obtain ⟨E1, E2, -⟩ := id hE
  refine xin (M := am_m48) rfl rfl (by unfold xAv; simp [amOk, bo_lt ho, Value.category]) ?_
  refine xcst 1 (0) ⟨u48, _, rfl⟩ rfl (by decide) (fun z0 h0 => ?_)
  refine xist 2 ⟨u48, _, rfl⟩ rfl rfl ?_
  refine l48a ho hE (fun hp1 w1 g1 g2 g3 => ?_) G [] _ hp rfl (by show z0.toInt = ((0 : Nat) : Int); omega) hG hH bFx.refl hB
  have hE1 : exO hp1 G C := exO_fr hE (fun c k hc => g2 c k (by rcases ho with rfl | rfl <;> simp <;> omega))
  refine xcst 36 (0) ⟨u48, _, rfl⟩ rfl (by decide) (fun z35 h35 => ?_)
  refine xist 37 ⟨u48, _, rfl⟩ rfl rfl ?_
  refine xcst 38 (0) ⟨u48, _, rfl⟩ rfl (by decide) (fun z37 h37 => ?_)
  refine xist 39 ⟨u48, _, rfl⟩ rfl rfl ?_
  exact l48b ho hE1 (by omega) (fun z hp2 k1 k2 k3 k4 => hR z hp2 k1 (g2.trans k2) k3 k4) C [] _ _ hp1 rfl (by show z37.toInt = ((0 : Nat) : Int); omega) hC (by show z35.toInt + ((cwL V (uTs T G) C : Nat) : Int) = _; omega) (by omega) g1 bFx.refl g3
end
/-! ##### 19.m.085.38h ##### -/
section
/-! ===== what an exchange loses; the best switch; descending (pure) ===== -/
theorem fL_cP {B h : Nat → Bool} : ∀ n, (fL B n).countP h = sm (fun i => iv (B i = true ∧ h i = true)) n
  | 0 => rfl
  | n + 1 => by
    show (fL B (n + 1)).countP h = sm (fun i => iv (B i = true ∧ h i = true)) n + iv (B n = true ∧ h n = true)
    by_cases e : B n = true
    · rw [fL_add e, List.countP_append, fL_cP n]
      by_cases g : h n = true
      · rw [iv_t ⟨e, g⟩, List.countP_cons_of_pos g]
        rfl
      · rw [iv_f (fun z => g z.2), List.countP_cons_of_neg g]
        rfl
    · rw [fL_skip e, fL_cP n, iv_f (fun z => e z.1)]
      rfl
/-- a quadrilateral has one of the triples numbered in D -/
def hitQ (T : sT) (D : List Nat) (n : Nat) : Bool := (qL T n).any (fun t => decide (t ∈ D))
theorem hitQ_g (T : sT) (D : List Nat) (n : Nat) : hitQ T D n = !(!decide (n / 1225 ∈ D) && (!decide (n / 35 % 35 ∈ D) && (!decide (n % 35 ∈ D) && !decide (ql T n ∈ D)))) := by
  unfold hitQ qL
  simp only [List.any_cons, List.any_nil]
  cases decide (n / 1225 ∈ D) <;> cases decide (n / 35 % 35 ∈ D) <;> cases decide (n % 35 ∈ D) <;> cases decide (ql T n ∈ D) <;> rfl
/-- lost and kept are all -/
theorem nQ_lost {V : Nat} {T : sT} (hT : sOk V T) {D : List Nat} (hD : ∀ t, t ∈ D → t < (trL T 225).length) (hT0 : sOk V (uTs T (D.map (mN T)))) : nQ T = nQ (uTs T (D.map (mN T))) + (fL (qdB T) 42875).countP (hitQ T D) := by
  have a := nQ_take hT hD hT0 (fun t => !decide (t ∈ D)) (fun t => by rw [Bool.not_eq_true', decide_eq_false_iff_not])
  rw [a, fL_cP]
  show (fL (qdB T) 42875).length = _
  rw [fL_sm, ← sm_add]
  refine sm_ext 42875 (fun n _ => ?_)
  rw [iv_b, iv_b, hitQ_g]
  cases (!decide (n / 1225 ∈ D) && (!decide (n / 35 % 35 ∈ D) && (!decide (n % 35 ∈ D) && !decide (ql T n ∈ D)))) <;> simp
theorem jL_test : ∀ {L : List Nat} (u : Nat), ris L → ((jL L).testBit u = true ↔ u ∈ L)
  | [], u, _ => by
    show (0 : Nat).testBit u = true ↔ _
    rw [Nat.zero_testBit]
    simp
  | x :: r, u, h => by
    rw [jL_or h.1.2, Nat.testBit_or, Bool.or_eq_true, jL_test (L := r) u h.2, Nat.testBit_two_pow, decide_eq_true_iff, List.mem_cons]
    exact ⟨fun z => z.elim (fun w => Or.inr w) (fun w => Or.inl w.symm), fun z => z.elim (fun w => Or.inr w.symm) (fun w => Or.inl w)⟩
theorem and_hit {a b : Nat} : (¬ a &&& b = 0) ↔ ∃ u, a.testBit u = true ∧ b.testBit u = true := by
  constructor
  · intro h
    obtain ⟨u, hu⟩ := Nat.exists_testBit_of_ne_zero h
    rw [Nat.testBit_and, Bool.and_eq_true] at hu
    exact ⟨u, hu⟩
  · rintro ⟨u, h1, h2⟩ z
    have : (a &&& b).testBit u = true := by rw [Nat.testBit_and, h1, h2]; rfl
    rw [z, Nat.zero_testBit] at this
    cases this
theorem hitQ_m {T : sT} {D : List Nat} {n x : Nat} (hr : ris (qL T n)) (hx : ∀ u, x.testBit u = true ↔ u ∈ D) : hitQ T D n = true ↔ ¬ jL (qL T n) &&& x = 0 := by
  rw [and_hit]
  unfold hitQ
  rw [List.any_eq_true]
  constructor
  · rintro ⟨t, t1, t2⟩
    exact ⟨t, (jL_test t hr).mpr t1, (hx t).mpr (of_decide_eq_true t2)⟩
  · rintro ⟨t, t1, t2⟩
    exact ⟨t, (jL_test t hr).mp t1, decide_eq_true ((hx t).mp t2)⟩
/-- the code of a quadrilateral by its place -/
abbrev cQ2 (T : sT) (q : Nat) : Nat := (fL (qdB T) 42875).getD q 0
/-- the first of the best values below a place -/
def bsF (most : Bool) (v : Nat → Nat) : Nat → Int × Int
  | 0 => (-1, 0)
  | q + 1 => if (bsF most v q).1 = -1 ∨ (if most = true then (bsF most v q).2 < (v q : Int) else (v q : Int) < (bsF most v q).2) then ((q : Int), (v q : Int)) else bsF most v q
theorem bsF_in (most : Bool) (v : Nat → Nat) : ∀ q, ((bsF most v q).1 = -1 ∧ q = 0) ∨ ∃ b : Nat, (bsF most v q).1 = (b : Int) ∧ b < q ∧ (bsF most v q).2 = (v b : Int)
  | 0 => Or.inl ⟨rfl, rfl⟩
  | q + 1 => by
    refine Or.inr ?_
    have e : bsF most v (q + 1) = if ((bsF most v q).1 = -1 ∨ (if most = true then (bsF most v q).2 < (v q : Int) else (v q : Int) < (bsF most v q).2)) then ((q : Int), (v q : Int)) else bsF most v q := rfl
    rw [e]
    by_cases h : ((bsF most v q).1 = -1 ∨ (if most = true then (bsF most v q).2 < (v q : Int) else (v q : Int) < (bsF most v q).2))
    · rw [if_pos h]
      exact ⟨q, rfl, Nat.lt_succ_self q, rfl⟩
    · rw [if_neg h]
      rcases bsF_in most v q with ⟨e, -⟩ | ⟨b, b1, b2, b3⟩
      · exact absurd (Or.inl e) h
      · exact ⟨b, b1, by omega, b3⟩
def wr (x : Int) : Int := x.bmod 4294967296
/-- what a switch tells the tally -/
def tyQ (ty : Nat → Int) : Nat → Int := fun i => if i = 0 then wr (ty 0 + 1) else if i = 2 then wr (ty 2 + 4) else ty i
abbrev swV (T : sT) (q : Nat) : Nat := nQ (swQ T (cQ2 T q))
/-- the least switch, so many times -/
def dsF : Nat → sT → (Nat → Int) → Nat → sT × (Nat → Int) × Nat
  | 0, T, ty, k => (T, ty, k)
  | f + 1, T, ty, k => if (bsF false (swV T) (nQ T)).1 = -1 ∨ nQ T ≤ swV T (bsF false (swV T) (nQ T)).1.toNat then (T, ty, k) else dsF f (swQ T (cQ2 T (bsF false (swV T) (nQ T)).1.toNat)) (tyQ ty) (k + 1)
/-- the quadrilateral at a place can be switched -/
theorem sw_ok {V : Nat} {T : sT} (hT : sOk V T) {q : Nat} (hq : q < nQ T) : cQ2 T q < 42875 ∧ qdB T (cQ2 T q) = true ∧ tkOk T (qG T (cQ2 T q)) ∧ sOk V (uTs T (qG T (cQ2 T q))) ∧ ptOk V (uTs T (qG T (cQ2 T q))) (qC T (cQ2 T q)) ∧ sOk V (swQ T (cQ2 T q)) := by
  obtain ⟨g1, g2, g3⟩ := fL_get (B := qdB T) 42875 q hq
  exact ⟨g2, g1, qd_ok hT g2 g1⟩
end
