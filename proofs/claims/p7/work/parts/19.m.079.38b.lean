/-! ===== a quadrilateral's six points, switched (pure) ===== -/
theorem mN_m3 {V : Nat} {T : sT} (hT : sOk V T) {t u v w : Nat} (ht : t < (trL T 225).length) (a : onL T t u) (b : onL T t v) (c : onL T t w) (h1 : ¬ u = v) (h2 : ¬ u = w) (h3 : ¬ v = w) : mN T t = m3 u v w := by
  obtain ⟨x, y, z, l1, l2, l3, e1, e2, e3⟩ := on_pts hT ht
  have a := (e3 u).mp a
  have b := (e3 v).mp b
  have c := (e3 w).mp c
  apply Nat.eq_of_testBit_eq
  intro q
  rw [m3_test]
  have q1 := e3 q
  unfold onL at q1
  rw [Bool.eq_iff_iff, q1, decide_eq_true_iff]
  omega
abbrev sxP (p a b c d e : Nat) : Prop := (¬ p = a ∧ ¬ p = b ∧ ¬ p = c ∧ ¬ p = d ∧ ¬ p = e) ∧ (¬ a = b ∧ ¬ a = c ∧ ¬ a = d ∧ ¬ a = e) ∧ (¬ b = c ∧ ¬ b = d ∧ ¬ b = e) ∧ (¬ c = d ∧ ¬ c = e) ∧ ¬ d = e
theorem qd_sx {V : Nat} {T : sT} (hT : sOk V T) {i j k l : Nat} (h : X4 T i j k l) : ∃ p a b c d e : Nat, (p < V ∧ a < V ∧ b < V ∧ c < V ∧ d < V ∧ e < V) ∧ sxP p a b c d e ∧ (mN T i = m3 p a b ∧ mN T j = m3 p c d ∧ mN T k = m3 a c e ∧ mN T l = m3 b d e) ∧ T p a = (b : Int) ∧ T p c = (d : Int) ∧ T a c = (e : Int) ∧ T b d = (e : Int) := by
  obtain ⟨p, a, b, c, d, e, ⟨p1, a1, b1⟩, ⟨p2, c1, d1⟩, ⟨a2, c2, e1⟩, ⟨b2, d2, e2⟩, t1, t2, t3, t4, nbc⟩ := X4_pts hT h
  obtain ⟨⟨bi, bj, bk, bl⟩, ⟨n12, n13, n14, n23, n24, n34⟩, -⟩ := id h
  obtain ⟨b', eb, -, lp, la, lb, q1, q2, q3, -⟩ := li_s hT (u := p) (v := a) (by omega)
  obtain ⟨d', ed, -, -, lc, ld, r1, r2, r3, -⟩ := li_s hT (u := p) (v := c) (by omega)
  obtain ⟨e', ee, -, -, -, le, s1, s2, s3, -⟩ := li_s hT (u := a) (v := c) (by omega)
  obtain ⟨f', ef, -, -, -, -, v1, v2, v3, -⟩ := li_s hT (u := b) (v := d) (by omega)
  have hb : b' = b := by omega
  have hd : d' = d := by omega
  have he : e' = e := by omega
  have hf : f' = e := by omega
  subst hb
  subst hd
  subst he
  subst hf
  have nad : ¬ a = d' := fun z => by rw [← z] at d1; exact n12 (on_1 hT bi bj q1 p1 a1 p2 d1)
  have npe : ¬ p = f' := fun z => by rw [← z] at e1; exact n13 (on_1 hT bi bk q1 p1 a1 e1 a2)
  exact ⟨p, a, b', c, d', f', ⟨lp, la, lb, lc, ld, le⟩, ⟨⟨q1, q2, r1, r2, npe⟩, ⟨q3, s1, nad, s2⟩, ⟨nbc, v1, v2⟩, ⟨r3, s3⟩, v3⟩, ⟨mN_m3 hT bi p1 a1 b1 q1 q2 q3, mN_m3 hT bj p2 c1 d1 r1 r2 r3, mN_m3 hT bk a2 c2 e1 s1 s2 s3, mN_m3 hT bl b2 d2 e2 v1 v2 v3⟩, t1, t2, t3, t4⟩
abbrev ql (T : sT) (n : Nat) : Nat := (nmT T (qR T n)).toNat
theorem qd_X {V : Nat} {T : sT} (hT : sOk V T) {n : Nat} (hn : n < 42875) (h : qdB T n = true) : X4 T (n / 1225) (n / 35 % 35) (n % 35) (ql T n) ∧ (n / 1225 < n / 35 % 35 ∧ n / 35 % 35 < n % 35 ∧ n % 35 < ql T n) ∧ nmT T (qR T n) = (ql T n : Int) ∧ qR T n = mN T (ql T n) := by
  have e : n = n / 1225 * 1225 + (n / 35 % 35 * 35 + n % 35) := by
    have := Nat.div_div_eq_div_mul n 35 35
    omega
  rcases nm_lt (T := T) (qR T n) with z | ⟨t, t1, t2⟩
  · have h2 := of_decide_eq_true h
    omega
  · have el : ql T n = t := by show (nmT T (qR T n)).toNat = t; rw [t2, Int.toNat_natCast]
    rw [el]
    have hB : qdB T (n / 1225 * 1225 + (n / 35 % 35 * 35 + n % 35)) = true ∧ nmT T (qR T (n / 1225 * 1225 + (n / 35 % 35 * 35 + n % 35))) = (t : Int) := by rw [← e]; exact ⟨h, t2⟩
    obtain ⟨g1, g2⟩ := (qdB_X4 hT (l := t) (i := n / 1225) (j := n / 35 % 35) (k := n % 35) (by omega) (by omega) (by omega)).mp hB
    exact ⟨g1, g2, t2, (nm_inv t2).2.symm⟩
/-- a quadrilateral's points, its triples, and those that the switch brings -/
def qU (T : sT) (n : Nat) : Nat := mN T (n / 1225) ||| mN T (n / 35 % 35) ||| qR T n
def qG (T : sT) (n : Nat) : List Nat := [mN T (n / 1225), mN T (n / 35 % 35), mN T (n % 35), mN T (ql T n)]
def qC (T : sT) (n : Nat) : List Nat := [ndif (qU T n) (mN T (n / 1225)), ndif (qU T n) (mN T (n / 35 % 35)), ndif (qU T n) (mN T (n % 35)), ndif (qU T n) (mN T (ql T n))]
def swQ (T : sT) (n : Nat) : sT := uPs (uTs T (qG T n)) (qC T n)
theorem nd_3 {U x y z a b c : Nat} (hU : ∀ u, U.testBit u = true ↔ ((u = x ∨ u = y ∨ u = z) ∨ (u = a ∨ u = b ∨ u = c))) (h1 : ¬ x = a ∧ ¬ x = b ∧ ¬ x = c) (h2 : ¬ y = a ∧ ¬ y = b ∧ ¬ y = c) (h3 : ¬ z = a ∧ ¬ z = b ∧ ¬ z = c) : ndif U (m3 x y z) = m3 a b c := by
  apply Nat.eq_of_testBit_eq
  intro u
  rw [nd_test, m3_test, m3_test, Bool.eq_iff_iff, Bool.and_eq_true, hU u, Bool.not_eq_true', decide_eq_false_iff_not, decide_eq_true_iff]
  omega
/-- all of it by the six points -/
theorem qd_all {V : Nat} {T : sT} (hT : sOk V T) {n : Nat} (hn : n < 42875) (h : qdB T n = true) : ∃ p a b c d e : Nat, (p < V ∧ a < V ∧ b < V ∧ c < V ∧ d < V ∧ e < V) ∧ sxP p a b c d e ∧ qG T n = [m3 p a b, m3 p c d, m3 a c e, m3 b d e] ∧ qC T n = [m3 c d e, m3 a b e, m3 p b d, m3 p a c] ∧ (∀ u, (qU T n).testBit u = true ↔ (u = p ∨ u = a ∨ u = b ∨ u = c ∨ u = d ∨ u = e)) ∧ T p a = (b : Int) ∧ T p c = (d : Int) ∧ T a c = (e : Int) ∧ T b d = (e : Int) := by
  obtain ⟨hX, -, -, hR⟩ := qd_X hT hn h
  obtain ⟨p, a, b, c, d, e, hlt, h6, ⟨m1, m2, m3', m4⟩, ht⟩ := qd_sx hT hX
  have hU : ∀ u, (qU T n).testBit u = true ↔ (u = p ∨ u = a ∨ u = b ∨ u = c ∨ u = d ∨ u = e) := fun u => by
    unfold qU
    rw [hR, m1, m2, m4, Nat.testBit_or, Nat.testBit_or, m3_test, m3_test, m3_test]
    simp only [Bool.or_eq_true, decide_eq_true_eq]
    omega
  obtain ⟨k1, k2, k3, k4, k5⟩ := id h6
  refine ⟨p, a, b, c, d, e, hlt, h6, ?_, ?_, hU, ht⟩
  · unfold qG
    rw [m1, m2, m3', m4]
  · unfold qC
    rw [m1, m2, m3', m4, nd_3 (U := qU T n) (x := p) (y := a) (z := b) (a := c) (b := d) (c := e) (fun u => by rw [hU u]; omega) (by omega) (by omega) (by omega), nd_3 (U := qU T n) (x := p) (y := c) (z := d) (a := a) (b := b) (c := e) (fun u => by rw [hU u]; omega) (by omega) (by omega) (by omega), nd_3 (U := qU T n) (x := a) (y := c) (z := e) (a := p) (b := b) (c := d) (fun u => by rw [hU u]; omega) (by omega) (by omega) (by omega), nd_3 (U := qU T n) (x := b) (y := d) (z := e) (a := p) (b := a) (c := c) (fun u => by rw [hU u]; omega) (by omega) (by omega) (by omega)]
theorem triM_m {V : Nat} {T : sT} (hT : sOk V T) {t : Nat} (ht : t < (trL T 225).length) : triM T (mN T t) := by
  obtain ⟨x, y, z, l1, l2, l3, e1, e2, e3⟩ := on_pts hT ht
  exact ⟨x, y, z, l1, l2, e1, e2⟩
theorem sh_m {V : Nat} {T : sT} (hT : sOk V T) {s t : Nat} (hs : s < (trL T 225).length) (ht : t < (trL T 225).length) (hne : ¬ s = t) : sh1 (mN T s) (mN T t) := fun u v h g => hne (on_1 hT hs ht h.1 h.2.1 h.2.2 g.2.1 g.2.2)
theorem freM_of {V c d e : Nat} {T : sT} (hT : sOk V T) (hc : c < V) (hd : d < V) (he : e < V) (h1 : ¬ c = d) (h2 : ¬ d = e) (h3 : ¬ c = e) (hf : ∀ u v, sPr c d e u v → T u v = -1) : freM V T (m3 c d e) := by
  obtain ⟨x, y, z, g1, g2, g3, -, -, g6, g7⟩ := srt h1 h2 h3
  obtain ⟨-, -, l3⟩ := g6 (fun i => i < V) hc hd he
  have q := fun u v (w : sPr x y z u v) => hf u v ⟨w.1, (g7 u).mpr w.2.1, (g7 v).mpr w.2.2⟩
  exact ⟨x, y, z, g1, g2, l3, g3, q x y ⟨by omega, by simp, by simp⟩, q y z ⟨by omega, by simp, by simp⟩, q x z ⟨by omega, by simp, by simp⟩⟩
theorem sh_3 {x y z a b c : Nat} (h : ∀ u v, sPr x y z u v → ¬ sPr a b c u v) : sh1 (m3 x y z) (m3 a b c) := fun u v g k => h u v (in2_3.mp g) (in2_3.mp k)
theorem sx_0 {p a b c d e u v : Nat} (g : sPr c d e u v) : sPr p a b u v ∨ sPr p c d u v ∨ sPr a c e u v ∨ sPr b d e u v := by
  obtain ⟨g0, g1, g2⟩ := g
  rcases g1 with rfl | rfl | rfl <;> rcases g2 with rfl | rfl | rfl <;> first | exact absurd rfl g0 | exact Or.inl ⟨g0, by simp, by simp⟩ | exact Or.inr (Or.inl ⟨g0, by simp, by simp⟩) | exact Or.inr (Or.inr (Or.inl ⟨g0, by simp, by simp⟩)) | exact Or.inr (Or.inr (Or.inr ⟨g0, by simp, by simp⟩))
theorem sx_1 {p a b c d e u v : Nat} (g : sPr a b e u v) : sPr p a b u v ∨ sPr p c d u v ∨ sPr a c e u v ∨ sPr b d e u v := by
  obtain ⟨g0, g1, g2⟩ := g
  rcases g1 with rfl | rfl | rfl <;> rcases g2 with rfl | rfl | rfl <;> first | exact absurd rfl g0 | exact Or.inl ⟨g0, by simp, by simp⟩ | exact Or.inr (Or.inl ⟨g0, by simp, by simp⟩) | exact Or.inr (Or.inr (Or.inl ⟨g0, by simp, by simp⟩)) | exact Or.inr (Or.inr (Or.inr ⟨g0, by simp, by simp⟩))
theorem sx_2 {p a b c d e u v : Nat} (g : sPr p b d u v) : sPr p a b u v ∨ sPr p c d u v ∨ sPr a c e u v ∨ sPr b d e u v := by
  obtain ⟨g0, g1, g2⟩ := g
  rcases g1 with rfl | rfl | rfl <;> rcases g2 with rfl | rfl | rfl <;> first | exact absurd rfl g0 | exact Or.inl ⟨g0, by simp, by simp⟩ | exact Or.inr (Or.inl ⟨g0, by simp, by simp⟩) | exact Or.inr (Or.inr (Or.inl ⟨g0, by simp, by simp⟩)) | exact Or.inr (Or.inr (Or.inr ⟨g0, by simp, by simp⟩))
theorem sx_3 {p a b c d e u v : Nat} (g : sPr p a c u v) : sPr p a b u v ∨ sPr p c d u v ∨ sPr a c e u v ∨ sPr b d e u v := by
  obtain ⟨g0, g1, g2⟩ := g
  rcases g1 with rfl | rfl | rfl <;> rcases g2 with rfl | rfl | rfl <;> first | exact absurd rfl g0 | exact Or.inl ⟨g0, by simp, by simp⟩ | exact Or.inr (Or.inl ⟨g0, by simp, by simp⟩) | exact Or.inr (Or.inr (Or.inl ⟨g0, by simp, by simp⟩)) | exact Or.inr (Or.inr (Or.inr ⟨g0, by simp, by simp⟩))
theorem sh_c {x y z a b c e : Nat} (h : ∀ w, (w = x ∨ w = y ∨ w = z) → (w = a ∨ w = b ∨ w = c) → w = e) : sh1 (m3 x y z) (m3 a b c) := sh_3 (fun u v g q => g.1 ((h u g.2.1 q.2.1).trans (h v g.2.2 q.2.2).symm))
/-- the switch can be made -/
theorem qd_ok {V : Nat} {T : sT} (hT : sOk V T) {n : Nat} (hn : n < 42875) (h : qdB T n = true) : tkOk T (qG T n) ∧ sOk V (uTs T (qG T n)) ∧ ptOk V (uTs T (qG T n)) (qC T n) ∧ sOk V (swQ T n) := by
  obtain ⟨hX, -, -, -⟩ := qd_X hT hn h
  obtain ⟨⟨bi, bj, bk, bl⟩, ⟨n12, n13, n14, n23, n24, n34⟩, -⟩ := id hX
  have h1 : tkOk T (qG T n) := tkOk_of (fun m hm => by
      unfold qG at hm
      simp only [List.mem_cons, List.not_mem_nil, or_false] at hm
      rcases hm with rfl | rfl | rfl | rfl
      · exact triM_m hT bi
      · exact triM_m hT bj
      · exact triM_m hT bk
      · exact triM_m hT bl) (by
      unfold qG
      refine ⟨fun b hb => ?_, fun b hb => ?_, fun b hb => ?_, fun b hb => absurd hb (by simp), trivial⟩
      · simp only [List.mem_cons, List.not_mem_nil, or_false] at hb
        rcases hb with rfl | rfl | rfl
        · exact sh_m hT bi bj n12
        · exact sh_m hT bi bk n13
        · exact sh_m hT bi bl n14
      · simp only [List.mem_cons, List.not_mem_nil, or_false] at hb
        rcases hb with rfl | rfl
        · exact sh_m hT bj bk n23
        · exact sh_m hT bj bl n24
      · simp only [List.mem_cons, List.not_mem_nil, or_false] at hb
        rcases hb with rfl
        exact sh_m hT bk bl n34)
  have h2 := sOk_uTs hT h1
  have h3 : ptOk V (uTs T (qG T n)) (qC T n) := by
    obtain ⟨p, a, b, c, d, e, ⟨lp, la, lb, lc, ld, le⟩, ⟨⟨k1, k2, k3, k4, k5⟩, ⟨k6, k7, k8, k9⟩, ⟨k10, k11, k12⟩, ⟨k13, k14⟩, k15⟩, eG, eC, -⟩ := qd_all hT hn h
    rw [eC]
    have go : ∀ u v, sPr p a b u v ∨ sPr p c d u v ∨ sPr a c e u v ∨ sPr b d e u v → uTs T (qG T n) u v = -1 := fun u v g => by
      rw [eG]
      rcases g with g | g | g | g
      · exact uTs_in (m := m3 p a b) (by simp) (in2_3.mpr g)
      · exact uTs_in (m := m3 p c d) (by simp) (in2_3.mpr g)
      · exact uTs_in (m := m3 a c e) (by simp) (in2_3.mpr g)
      · exact uTs_in (m := m3 b d e) (by simp) (in2_3.mpr g)
    refine ptOk_of (fun m hm => ?_) ?_
    · simp only [List.mem_cons, List.not_mem_nil, or_false] at hm
      rcases hm with rfl | rfl | rfl | rfl
      · exact freM_of h2 lc ld le k13 k15 k14 (fun u v g => go u v (sx_0 g))
      · exact freM_of h2 la lb le k6 k12 k9 (fun u v g => go u v (sx_1 g))
      · exact freM_of h2 lp lb ld k2 k11 k4 (fun u v g => go u v (sx_2 g))
      · exact freM_of h2 lp la lc k1 k7 k3 (fun u v g => go u v (sx_3 g))
    · refine ⟨fun m hm => ?_, fun m hm => ?_, fun m hm => ?_, fun b hb => absurd hb (by simp), trivial⟩
      · simp only [List.mem_cons, List.not_mem_nil, or_false] at hm
        rcases hm with rfl | rfl | rfl
        · exact sh_c (e := e) (fun w g q => by omega)
        · exact sh_c (e := d) (fun w g q => by omega)
        · exact sh_c (e := c) (fun w g q => by omega)
      · simp only [List.mem_cons, List.not_mem_nil, or_false] at hm
        rcases hm with rfl | rfl
        · exact sh_c (e := b) (fun w g q => by omega)
        · exact sh_c (e := a) (fun w g q => by omega)
      · simp only [List.mem_cons, List.not_mem_nil, or_false] at hm
        rcases hm with rfl
        exact sh_c (e := p) (fun w g q => by omega)
  exact ⟨h1, h2, h3, sOk_uPs h2 h3⟩
