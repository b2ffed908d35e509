/-! ##### 19.m.051.35b ##### -/
section
/-! ===== rising numbers among all orders (pure) ===== -/
/-- whether four numbers stand so doesn't hang on their order, and no two are the same -/
noncomputable def sym4 (X : Nat → Nat → Nat → Nat → Prop) : Prop := (∀ i j k l, X i j k l → X j i k l) ∧ (∀ i j k l, X i j k l → X i k j l) ∧ (∀ i j k l, X i j k l → X i j l k) ∧ ∀ i j k l, X i j k l → ¬ i = j ∧ ¬ i = k ∧ ¬ i = l ∧ ¬ j = k ∧ ¬ j = l ∧ ¬ k = l
theorem sym_a {n : Nat} {X : Nat → Nat → Nat → Nat → Prop} [∀ i j k l, Decidable (X i j k l)] (h : sym4 X) : s4 n (fun i j k l => iv (X i j k l)) = 2 * s4 n (fun i j k l => iv (X i j k l ∧ i < j)) := by
  have e : s4 n (fun i j k l => iv (X i j k l)) = s4 n (fun i j k l => iv (X i j k l ∧ i < j) + iv (X j i k l ∧ j < i)) := s4_ext (fun i j k l _ _ _ _ => by
    rw [← iv_or (by omega)]
    exact iv_eq ⟨fun z => by
      have := (h.2.2.2 _ _ _ _ z).1
      rcases Nat.lt_or_gt_of_ne this with g | g
      · exact Or.inl ⟨z, g⟩
      · exact Or.inr ⟨h.1 _ _ _ _ z, g⟩, fun z => by
      rcases z with z | z
      · exact z.1
      · exact h.1 _ _ _ _ z.1⟩)
  rw [e, s4_add, s4_12 (fun i j k l => iv (X i j k l ∧ i < j))]
  omega
theorem sym_b {n : Nat} {X : Nat → Nat → Nat → Nat → Prop} [∀ i j k l, Decidable (X i j k l)] (h : sym4 X) : s4 n (fun i j k l => iv (X i j k l ∧ i < j)) = 3 * s4 n (fun i j k l => iv (X i j k l ∧ i < j ∧ j < k)) := by
  have e : s4 n (fun i j k l => iv (X i j k l ∧ i < j)) = s4 n (fun i j k l => (iv (X i j k l ∧ i < j ∧ j < k) + iv (X i k j l ∧ i < k ∧ k < j)) + iv (X k i j l ∧ k < i ∧ i < j)) := s4_ext (fun i j k l _ _ _ _ => by
    rw [← iv_or (by omega), ← iv_or (by omega)]
    exact iv_eq ⟨fun z => by
      have q := h.2.2.2 _ _ _ _ z.1
      have z2 := h.2.1 _ _ _ _ z.1
      have z3 := h.1 _ _ _ _ z2
      rcases Nat.lt_or_gt_of_ne q.2.2.2.1 with g | g
      · exact Or.inl (Or.inl ⟨z.1, z.2, g⟩)
      · rcases Nat.lt_or_gt_of_ne q.2.1 with g2 | g2
        · exact Or.inl (Or.inr ⟨z2, g2, g⟩)
        · exact Or.inr ⟨z3, g2, z.2⟩, fun z => by
      rcases z with (z | z) | z
      · exact ⟨z.1, z.2.1⟩
      · exact ⟨h.2.1 _ _ _ _ z.1, by omega⟩
      · exact ⟨h.2.1 _ _ _ _ (h.1 _ _ _ _ z.1), z.2.2⟩⟩)
  have e1 : s4 n (fun i j k l => iv (X i k j l ∧ i < k ∧ k < j)) = s4 n (fun i j k l => iv (X i j k l ∧ i < j ∧ j < k)) := s4_23 (fun i j k l => iv (X i j k l ∧ i < j ∧ j < k))
  have e2 : s4 n (fun i j k l => iv (X k i j l ∧ k < i ∧ i < j)) = s4 n (fun i j k l => iv (X i j k l ∧ i < j ∧ j < k)) :=
    (s4_23 (fun i j k l => iv (X j i k l ∧ j < i ∧ i < k))).trans (s4_12 (fun i j k l => iv (X i j k l ∧ i < j ∧ j < k)))
  rw [e, s4_add, s4_add, e1, e2]
  omega
theorem sym_c {n : Nat} {X : Nat → Nat → Nat → Nat → Prop} [∀ i j k l, Decidable (X i j k l)] (h : sym4 X) : s4 n (fun i j k l => iv (X i j k l ∧ i < j ∧ j < k)) = 4 * s4 n (fun i j k l => iv (X i j k l ∧ i < j ∧ j < k ∧ k < l)) := by
  have e : s4 n (fun i j k l => iv (X i j k l ∧ i < j ∧ j < k)) = s4 n (fun i j k l => ((iv (X i j k l ∧ i < j ∧ j < k ∧ k < l) + iv (X i j l k ∧ i < j ∧ j < l ∧ l < k)) + iv (X i l j k ∧ i < l ∧ l < j ∧ j < k)) + iv (X l i j k ∧ l < i ∧ i < j ∧ j < k)) := s4_ext (fun i j k l _ _ _ _ => by
    rw [← iv_or (by omega), ← iv_or (by omega), ← iv_or (by omega)]
    exact iv_eq ⟨fun z => by
      have q := h.2.2.2 _ _ _ _ z.1
      have z2 := h.2.2.1 _ _ _ _ z.1
      have z3 := h.2.1 _ _ _ _ z2
      have z4 := h.1 _ _ _ _ z3
      rcases Nat.lt_or_gt_of_ne q.2.2.2.2.2 with g | g
      · exact Or.inl (Or.inl (Or.inl ⟨z.1, z.2.1, z.2.2, g⟩))
      · rcases Nat.lt_or_gt_of_ne q.2.2.2.2.1 with g2 | g2
        · exact Or.inl (Or.inl (Or.inr ⟨z2, z.2.1, g2, g⟩))
        · rcases Nat.lt_or_gt_of_ne q.2.2.1 with g3 | g3
          · exact Or.inl (Or.inr ⟨z3, g3, g2, z.2.2⟩)
          · exact Or.inr ⟨z4, g3, z.2.1, z.2.2⟩, fun z => by
      rcases z with ((z | z) | z) | z
      · exact ⟨z.1, z.2.1, z.2.2.1⟩
      · exact ⟨h.2.2.1 _ _ _ _ z.1, z.2.1, by omega⟩
      · exact ⟨h.2.2.1 _ _ _ _ (h.2.1 _ _ _ _ z.1), by omega, z.2.2.2⟩
      · exact ⟨h.2.2.1 _ _ _ _ (h.2.1 _ _ _ _ (h.1 _ _ _ _ z.1)), z.2.2.1, z.2.2.2⟩⟩)
  have e1 : s4 n (fun i j k l => iv (X i j l k ∧ i < j ∧ j < l ∧ l < k)) = s4 n (fun i j k l => iv (X i j k l ∧ i < j ∧ j < k ∧ k < l)) := s4_34 (fun i j k l => iv (X i j k l ∧ i < j ∧ j < k ∧ k < l))
  have e2 : s4 n (fun i j k l => iv (X i l j k ∧ i < l ∧ l < j ∧ j < k)) = s4 n (fun i j k l => iv (X i j k l ∧ i < j ∧ j < k ∧ k < l)) :=
    (s4_34 (fun i j k l => iv (X i k j l ∧ i < k ∧ k < j ∧ j < l))).trans (s4_23 (fun i j k l => iv (X i j k l ∧ i < j ∧ j < k ∧ k < l)))
  have e3 : s4 n (fun i j k l => iv (X l i j k ∧ l < i ∧ i < j ∧ j < k)) = s4 n (fun i j k l => iv (X i j k l ∧ i < j ∧ j < k ∧ k < l)) :=
    (s4_34 (fun i j k l => iv (X k i j l ∧ k < i ∧ i < j ∧ j < l))).trans ((s4_23 (fun i j k l => iv (X j i k l ∧ j < i ∧ i < k ∧ k < l))).trans (s4_12 (fun i j k l => iv (X i j k l ∧ i < j ∧ j < k ∧ k < l))))
  rw [e, s4_add, s4_add, s4_add, e1, e2, e3]
  omega
/-- four in all orders are 24 times the rising ones -/
theorem sym_24 {n : Nat} {X : Nat → Nat → Nat → Nat → Prop} [∀ i j k l, Decidable (X i j k l)] (h : sym4 X) : s4 n (fun i j k l => iv (X i j k l)) = 24 * s4 n (fun i j k l => iv (X i j k l ∧ i < j ∧ j < k ∧ k < l)) := by
  have a := sym_a (n := n) h
  have b := sym_b (n := n) h
  have c := sym_c (n := n) h
  omega
end
/-! ##### 19.m.052.35c ##### -/
section
/-! ===== four triples, each point of them on two (pure) ===== -/
abbrev onL (T : sT) (t u : Nat) : Prop := (mN T t).testBit u = true
theorem on_pts {V : Nat} {T : sT} (hT : sOk V T) {t : Nat} (ht : t < (trL T 225).length) : ∃ x y z : Nat, x < y ∧ y < z ∧ z < V ∧ mN T t = m3 x y z ∧ T x y = (z : Int) ∧ ∀ u, onL T t u ↔ (u = x ∨ u = y ∨ u = z) := by
  obtain ⟨g1, g2, g3⟩ := trL_get 225 t ht
  obtain ⟨z, ez, h1, h2, h3⟩ := tr_pts hT g1
  have e : mN T t = m3 ((trL T 225).getD t 0 / 15) ((trL T 225).getD t 0 % 15) z := by unfold mN mk3; rw [ez, Int.toNat_natCast]
  refine ⟨_, _, z, h1, h2, h3, e, ez, fun u => ?_⟩
  unfold onL
  rw [e, m3_test]
  exact decide_eq_true_iff
theorem on_T {V : Nat} {T : sT} (hT : sOk V T) {t u v : Nat} (ht : t < (trL T 225).length) (hu : onL T t u) (hv : onL T t v) (h : ¬ u = v) : ¬ T u v = -1 ∧ cd T u v = (trL T 225).getD t 0 := by
  obtain ⟨g1, g2, g3⟩ := trL_get 225 t ht
  obtain ⟨z, ez, h1, h2, h3⟩ := tr_pts hT g1
  unfold onL mN mk3 at hu hv
  rw [ez, Int.toNat_natCast, m3_test] at hu hv
  have hu := of_decide_eq_true hu
  have hv := of_decide_eq_true hv
  have := cd_pr hT g1 (u := u) (v := v) (by rw [ez, Int.toNat_natCast]; exact ⟨h, hu, hv⟩)
  exact this.2
/-- two points are on one triple at most -/
theorem on_1 {V : Nat} {T : sT} (hT : sOk V T) {s t u v : Nat} (hs : s < (trL T 225).length) (ht : t < (trL T 225).length) (h : ¬ u = v) (a : onL T s u) (b : onL T s v) (c : onL T t u) (d : onL T t v) : s = t :=
  gd_inj hs ht ((on_T hT hs a b h).2.symm.trans (on_T hT ht c d h).2)
/-- three points of a triple: two lead to the third -/
theorem on_3 {V : Nat} {T : sT} (hT : sOk V T) {t u v w : Nat} (ht : t < (trL T 225).length) (a : onL T t u) (b : onL T t v) (c : onL T t w) (h1 : ¬ u = v) (h2 : ¬ u = w) (h3 : ¬ v = w) : T u v = (w : Int) := by
  obtain ⟨x, y, z, l1, l2, l3, e1, e2, e3⟩ := on_pts hT ht
  have a := (e3 u).mp a
  have b := (e3 v).mp b
  have c := (e3 w).mp c
  exact T_perm hT (fun i => by omega) (by omega) (by omega) (by omega) h1 h3 h2 e2
/-- four triples of which each leaves the other three -/
abbrev X4 (T : sT) (i j k l : Nat) : Prop := (i < (trL T 225).length ∧ j < (trL T 225).length ∧ k < (trL T 225).length ∧ l < (trL T 225).length) ∧ (¬ i = j ∧ ¬ i = k ∧ ¬ i = l ∧ ¬ j = k ∧ ¬ j = l ∧ ¬ k = l) ∧ mN T i ^^^ mN T j ^^^ mN T k = mN T l
theorem xr_12 {a b c d : Nat} (h : a ^^^ b ^^^ c = d) : b ^^^ a ^^^ c = d := by rw [Nat.xor_comm b a]; exact h
theorem xr_23 {a b c d : Nat} (h : a ^^^ b ^^^ c = d) : a ^^^ c ^^^ b = d := by rw [Nat.xor_assoc, Nat.xor_comm c b, ← Nat.xor_assoc]; exact h
theorem xr_34 {a b c d : Nat} (h : a ^^^ b ^^^ c = d) : a ^^^ b ^^^ d = c := by rw [← h, ← Nat.xor_assoc, Nat.xor_self, Nat.zero_xor]
theorem X4_sym (T : sT) : sym4 (X4 T) :=
  ⟨fun i j k l h => ⟨by have := h.1; omega, by have := h.2.1; omega, xr_12 h.2.2⟩, fun i j k l h => ⟨by have := h.1; omega, by have := h.2.1; omega, xr_23 h.2.2⟩, fun i j k l h => ⟨by have := h.1; omega, by have := h.2.1; omega, xr_34 h.2.2⟩, fun i j k l h => h.2.1⟩
theorem X4_par {T : sT} {i j k l : Nat} (h : X4 T i j k l) (u : Nat) : (((mN T i).testBit u ^^ (mN T j).testBit u) ^^ (mN T k).testBit u) = (mN T l).testBit u := by
  rw [← h.2.2, Nat.testBit_xor, Nat.testBit_xor]
/-- a point of one is on another -/
theorem X4_or {T : sT} {i j k l : Nat} (h : X4 T i j k l) {u : Nat} (a : onL T i u) : onL T j u ∨ onL T k u ∨ onL T l u := by
  have p := X4_par h u
  unfold onL at a ⊢
  rw [a] at p
  cases hj : (mN T j).testBit u
  · cases hk : (mN T k).testBit u
    · rw [hj, hk] at p
      exact Or.inr (Or.inr p.symm)
    · exact Or.inr (Or.inl rfl)
  · exact Or.inl rfl
theorem X4_meet {V : Nat} {T : sT} (hT : sOk V T) {i j k l : Nat} (h : X4 T i j k l) : ∃ p, onL T i p ∧ onL T j p := by
  obtain ⟨⟨bi, bj, bk, bl⟩, ⟨d1, d2, d3, d4, d5, d6⟩, -⟩ := id h
  obtain ⟨x, y, z, l1, l2, l3, -, -, e3⟩ := on_pts hT bi
  have ox := (e3 x).mpr (Or.inl rfl)
  have oy := (e3 y).mpr (Or.inr (Or.inl rfl))
  have oz := (e3 z).mpr (Or.inr (Or.inr rfl))
  have q : ∀ {t u v : Nat}, t < (trL T 225).length → ¬ i = t → onL T i u → onL T i v → ¬ u = v → onL T t u → onL T t v → False := fun ht hn a b hne c d => hn (on_1 hT bi ht hne a b c d)
  rcases X4_or h ox with a | a | a
  · exact ⟨x, ox, a⟩
  · rcases X4_or h oy with b | b | b
    · exact ⟨y, oy, b⟩
    · exact (q bk d2 ox oy (by omega) a b).elim
    · rcases X4_or h oz with c | c | c
      · exact ⟨z, oz, c⟩
      · exact (q bk d2 ox oz (by omega) a c).elim
      · exact (q bl d3 oy oz (by omega) b c).elim
  · rcases X4_or h oy with b | b | b
    · exact ⟨y, oy, b⟩
    · rcases X4_or h oz with c | c | c
      · exact ⟨z, oz, c⟩
      · exact (q bk d2 oy oz (by omega) b c).elim
      · exact (q bl d3 ox oz (by omega) a c).elim
    · exact (q bl d3 ox oy (by omega) a b).elim
theorem X4_no3 {V : Nat} {T : sT} (hT : sOk V T) {i j k l : Nat} (h : X4 T i j k l) {p : Nat} (a : onL T i p) (b : onL T j p) (c : onL T k p) : False := by
  obtain ⟨⟨bi, bj, bk, bl⟩, ⟨d1, d2, d3, d4, d5, d6⟩, -⟩ := id h
  have d : onL T l p := by
    have q := X4_par h p
    unfold onL at a b c ⊢
    rw [a, b, c] at q
    exact q.symm
  obtain ⟨x, y, z, l1, l2, l3, -, -, e3⟩ := on_pts hT bi
  have hu : ∃ u, onL T i u ∧ ¬ p = u := by
    by_cases e : p = x
    · exact ⟨y, (e3 y).mpr (Or.inr (Or.inl rfl)), by omega⟩
    · exact ⟨x, (e3 x).mpr (Or.inl rfl), e⟩
  obtain ⟨u, ou, hne⟩ := hu
  rcases X4_or h ou with g | g | g
  · exact d1 (on_1 hT bi bj hne a ou b g)
  · exact d2 (on_1 hT bi bk hne a ou c g)
  · exact d3 (on_1 hT bi bl hne a ou d g)
/-- the six points of a quadrilateral -/
theorem X4_pts {V : Nat} {T : sT} (hT : sOk V T) {i j k l : Nat} (h : X4 T i j k l) : ∃ p a b c d e : Nat, (onL T i p ∧ onL T i a ∧ onL T i b) ∧ (onL T j p ∧ onL T j c ∧ onL T j d) ∧ (onL T k a ∧ onL T k c ∧ onL T k e) ∧ (onL T l b ∧ onL T l d ∧ onL T l e) ∧ T p a = (b : Int) ∧ T p c = (d : Int) ∧ T a c = (e : Int) ∧ T b d = (e : Int) ∧ ¬ b = c := by
  obtain ⟨s1, s2, s3, s4⟩ := X4_sym T
  have h1 := h
  have ikjl := s2 _ _ _ _ h
  have iljk : X4 T i l j k := s2 _ _ _ _ (s3 _ _ _ _ h)
  have jkil : X4 T j k i l := s2 _ _ _ _ (s1 _ _ _ _ h)
  have jlik : X4 T j l i k := s2 _ _ _ _ (s3 _ _ _ _ (s1 _ _ _ _ h))
  have klij : X4 T k l i j := s2 _ _ _ _ (s3 _ _ _ _ (s1 _ _ _ _ ikjl))
  have ijlk := s3 _ _ _ _ h
  obtain ⟨⟨bi, bj, bk, bl⟩, ⟨d1, d2, d3, d4, d5, d6⟩, -⟩ := id h
  obtain ⟨p, p1, p2⟩ := X4_meet hT h
  obtain ⟨a, a1, a2⟩ := X4_meet hT ikjl
  obtain ⟨b, b1, b2⟩ := X4_meet hT iljk
  obtain ⟨c, c1, c2⟩ := X4_meet hT jkil
  obtain ⟨d, e1, e2⟩ := X4_meet hT jlik
  obtain ⟨e, f1, f2⟩ := X4_meet hT klij
  have npa : ¬ p = a := fun z => by subst z; exact X4_no3 hT h p1 p2 a2
  have npb : ¬ p = b := fun z => by subst z; exact X4_no3 hT ijlk p1 p2 b2
  have nab : ¬ a = b := fun z => by subst z; exact X4_no3 hT (s3 _ _ _ _ ikjl) a1 a2 b2
  have npc : ¬ p = c := fun z => by subst z; exact X4_no3 hT h p1 p2 c2
  have npd : ¬ p = d := fun z => by subst z; exact X4_no3 hT ijlk p1 p2 e2
  have ncd : ¬ c = d := fun z => by subst z; exact X4_no3 hT (s3 _ _ _ _ jkil) c1 c2 e2
  have nac : ¬ a = c := fun z => by subst z; exact X4_no3 hT ikjl a1 a2 c1
  have nae : ¬ a = e := fun z => by subst z; exact X4_no3 hT (s3 _ _ _ _ ikjl) a1 a2 f2
  have nce : ¬ c = e := fun z => by subst z; exact X4_no3 hT (s3 _ _ _ _ jkil) c1 c2 f2
  have nbd : ¬ b = d := fun z => by subst z; exact X4_no3 hT iljk b1 b2 e1
  have nbe : ¬ b = e := fun z => by subst z; exact X4_no3 hT (s3 _ _ _ _ iljk) b1 b2 f1
  have nde : ¬ d = e := fun z => by subst z; exact X4_no3 hT (s3 _ _ _ _ jlik) e1 e2 f1
  have nbc : ¬ b = c := fun z => by subst z; exact X4_no3 hT iljk b1 b2 c1
  exact ⟨p, a, b, c, d, e, ⟨p1, a1, b1⟩, ⟨p2, c1, e1⟩, ⟨a2, c2, f1⟩, ⟨b2, e2, f2⟩, on_3 hT bi p1 a1 b1 npa npb nab, on_3 hT bj p2 c1 e1 npc npd ncd, on_3 hT bk a2 c2 f1 nac nae nce, on_3 hT bl b2 e2 f2 nbd nbe nde, nbc⟩
end
/-! ##### 19.m.053.35d ##### -/
section
/-! ===== quadrilaterals by their points (pure) ===== -/
/-- the number of the triple of a covered pair -/
noncomputable def li (T : sT) (u v : Nat) : Nat := (trL T (cd T u v)).length
theorem li_s {V : Nat} {T : sT} (hT : sOk V T) {u v : Nat} (h : ¬ T u v = -1) : ∃ w : Nat, T u v = (w : Int) ∧ (T u v).toNat = w ∧ u < V ∧ v < V ∧ w < V ∧ ¬ u = v ∧ ¬ u = w ∧ ¬ v = w ∧ li T u v < (trL T 225).length ∧ mN T (li T u v) = m3 u v w ∧ onL T (li T u v) u ∧ onL T (li T u v) v ∧ onL T (li T u v) w := by
  obtain ⟨w, ew, l1, l2, l3, d1, d2, d3, -⟩ := sOk_at hT rfl h
  obtain ⟨g1, g2, -⟩ := cd_of hT h
  obtain ⟨k1, k2⟩ := trL_ix g1 (224 - cd T u v)
  rw [show cd T u v + 1 + (224 - cd T u v) = 225 by omega] at k1 k2
  have e : mN T (li T u v) = m3 u v w := by
    unfold mN li
    rw [k2]
    exact mk_cd hT ew
  refine ⟨w, ew, by rw [ew, Int.toNat_natCast], l1, l2, l3, d1, d2, d3, k1, e, ?_, ?_, ?_⟩
  · unfold onL; rw [e, m3_test]; exact decide_eq_true (by simp)
  · unfold onL; rw [e, m3_test]; exact decide_eq_true (by simp)
  · unfold onL; rw [e, m3_test]; exact decide_eq_true (by simp)
/-- p, with a and c beside it, is a point of a quadrilateral -/
abbrev Pa (T : sT) (p a c : Nat) : Prop := ¬ T p a = -1 ∧ ¬ T p c = -1 ∧ ¬ T a c = -1 ∧ ¬ T p a = (c : Int) ∧ T (T p a).toNat (T p c).toNat = T a c
theorem xr_pts {p a b c d e : Nat} (h1 : ¬ p = a) (h2 : ¬ p = b) (h3 : ¬ a = b) (h4 : ¬ p = c) (h5 : ¬ p = d) (h6 : ¬ c = d) (h7 : ¬ a = c) (h8 : ¬ a = e) (h9 : ¬ c = e) (h10 : ¬ b = d) (h11 : ¬ b = e) (h12 : ¬ d = e) (h13 : ¬ b = c) (h14 : ¬ a = d) (h15 : ¬ p = e) : m3 p a b ^^^ m3 p c d ^^^ m3 a c e = m3 b d e := by
  apply Nat.eq_of_testBit_eq
  intro u
  rw [Nat.testBit_xor, Nat.testBit_xor, m3_test, m3_test, m3_test, m3_test]
  by_cases g1 : u = p
  · subst g1; simp [*]
  · by_cases g2 : u = a
    · subst g2; simp [*]
    · by_cases g3 : u = b
      · subst g3; simp [*, Ne.symm h3]
      · by_cases g4 : u = c
        · subst g4; simp [*]
        · by_cases g5 : u = d
          · subst g5; simp [*]
          · by_cases g6 : u = e
            · subst g6; simp [*]
            · simp [*]
theorem Pa_X4 {V : Nat} {T : sT} (hT : sOk V T) {p a c : Nat} (h : Pa T p a c) : X4 T (li T p a) (li T p c) (li T a c) (li T (T p a).toNat (T p c).toNat) := by
  obtain ⟨h1, h2, h3, h4, h5⟩ := h
  obtain ⟨b, eb, eb2, -, -, -, b1, b2, b3, bi, mi, i1, i2, i3⟩ := li_s hT h1
  obtain ⟨d, ed, ed2, -, -, -, d1, d2, d3, bj, mj, j1, j2, j3⟩ := li_s hT h2
  obtain ⟨e, ee, ee2, -, -, -, e1, e2, e3, bk, mk, k1, k2, k3⟩ := li_s hT h3
  rw [eb2, ed2] at h5 ⊢
  obtain ⟨f, ef, ef2, -, -, -, f1, f2, f3, bl, ml, q1, q2, q3⟩ := li_s hT (u := b) (v := d) (by omega)
  have hfe : f = e := by omega
  subst hfe
  have nbc : ¬ b = c := by omega
  have n12 : ¬ li T p a = li T p c := fun z => by
    rw [← z] at j2
    have := on_3 hT bi i1 i2 j2 b1 d1 e1
    omega
  have n13 : ¬ li T p a = li T a c := fun z => by
    rw [← z] at k2
    have := on_3 hT bi i1 i2 k2 b1 d1 e1
    omega
  have n14 : ¬ li T p a = li T b d := fun z => by
    rw [← z] at q2
    exact n12 (on_1 hT bi bj d2 i1 q2 j1 j3)
  have n23 : ¬ li T p c = li T a c := fun z => by
    rw [← z] at k1
    exact n12 (on_1 hT bi bj b1 i1 i2 j1 k1)
  have n24 : ¬ li T p c = li T b d := fun z => by
    rw [← z] at q1
    exact n12 (on_1 hT bi bj b2 i1 i3 j1 q1)
  have n34 : ¬ li T a c = li T b d := fun z => by
    rw [← z] at q1
    exact n13 (on_1 hT bi bk b3 i2 i3 k1 q1)
  have nad : ¬ a = d := fun z => by
    rw [← z] at j3
    exact n12 (on_1 hT bi bj b1 i1 i2 j1 j3)
  have npe : ¬ p = f := fun z => by
    rw [← z] at k3
    exact n13 (on_1 hT bi bk b1 i1 i2 k3 k1)
  refine ⟨⟨bi, bj, bk, bl⟩, ⟨n12, n13, n14, n23, n24, n34⟩, ?_⟩
  rw [mi, mj, mk, ml]
  exact xr_pts b1 b2 b3 d1 d2 d3 e1 e2 e3 f1 f2 f3 nbc nad npe
theorem sm_s4 {n : Nat} (f : Nat → Nat → Nat → Nat → Nat → Nat) (m : Nat) : sm (fun p => s4 n (f p)) m = s4 n (fun i j k l => sm (fun p => f p i j k l) m) := by
  unfold s4 s3
  rw [sm_swap]
  refine sm_ext n (fun i _ => ?_)
  rw [sm_swap]
  refine sm_ext n (fun j _ => ?_)
  rw [sm_swap]
  refine sm_ext n (fun k _ => ?_)
  rw [sm_swap]
theorem s3_s4 {n m : Nat} (f : Nat → Nat → Nat → Nat → Nat → Nat → Nat → Nat) : s3 m (fun p a c => s4 n (f p a c)) = s4 n (fun i j k l => s3 m (fun p a c => f p a c i j k l)) := by
  unfold s3
  rw [sm_ext m (fun p _ => (sm_ext m (fun a _ => sm_s4 (f p a) m)).trans (sm_s4 (fun a i j k l => sm (fun c => f p a c i j k l) m) m)), sm_s4]
theorem s4_one {n : Nat} {f : Nat → Nat → Nat → Nat → Nat} {i0 j0 k0 l0 v : Nat} (hi : i0 < n) (hj : j0 < n) (hk : k0 < n) (hl : l0 < n) (h : f i0 j0 k0 l0 = v) (h0 : ∀ i j k l, ¬ (i = i0 ∧ j = j0 ∧ k = k0 ∧ l = l0) → f i j k l = 0) : s4 n f = v := by
  unfold s4 s3
  refine sm_one hi (sm_one hj (sm_one hk (sm_one hl h (fun l _ g => h0 _ _ _ _ (by omega))) (fun k _ g => sm_none (fun l _ => h0 _ _ _ _ (by omega)))) (fun j _ g => sm_none (fun k _ => sm_none (fun l _ => h0 _ _ _ _ (by omega))))) (fun i _ g => sm_none (fun j _ => sm_none (fun k _ => sm_none (fun l _ => h0 _ _ _ _ (by omega)))))
theorem s3_one {n : Nat} {f : Nat → Nat → Nat → Nat} {i0 j0 k0 v : Nat} (hi : i0 < n) (hj : j0 < n) (hk : k0 < n) (h : f i0 j0 k0 = v) (h0 : ∀ i j k, i < n → j < n → k < n → ¬ (i = i0 ∧ j = j0 ∧ k = k0) → f i j k = 0) : s3 n f = v := by
  unfold s3
  refine sm_one hi (sm_one hj (sm_one hk h (fun k g1 g => h0 _ _ _ hi hj g1 (by omega))) (fun j g1 g => sm_none (fun k g2 => h0 _ _ _ hi g1 g2 (by omega)))) (fun i g1 g => sm_none (fun j g2 => sm_none (fun k g3 => h0 _ _ _ g1 g2 g3 (by omega))))
theorem s3_none {n : Nat} {f : Nat → Nat → Nat → Nat} (h0 : ∀ i j k, i < n → j < n → k < n → f i j k = 0) : s3 n f = 0 := by
  unfold s3
  exact sm_none (fun i g1 => sm_none (fun j g2 => sm_none (fun k g3 => h0 _ _ _ g1 g2 g3)))
/-- as many points with two beside them as fours of triples in all orders -/
theorem Pa_sum {V : Nat} {T : sT} (hT : sOk V T) (g : Nat → Bool) : s3 15 (fun p a c => iv (Pa T p a c ∧ g (li T p a) = true ∧ g (li T p c) = true ∧ g (li T a c) = true ∧ g (li T (T p a).toNat (T p c).toNat) = true)) = s4 35 (fun i j k l => iv (X4 T i j k l ∧ g i = true ∧ g j = true ∧ g k = true ∧ g l = true)) := by
  have hV := hT.2.1
  have l35 := trL_35 hT 225
  have a1 : ∀ p a c, iv (Pa T p a c ∧ g (li T p a) = true ∧ g (li T p c) = true ∧ g (li T a c) = true ∧ g (li T (T p a).toNat (T p c).toNat) = true) = s4 35 (fun i j k l => iv ((Pa T p a c ∧ g i = true ∧ g j = true ∧ g k = true ∧ g l = true) ∧ i = li T p a ∧ j = li T p c ∧ k = li T a c ∧ l = li T (T p a).toNat (T p c).toNat)) := by
    intro p a c
    by_cases h : Pa T p a c
    · obtain ⟨⟨x1, x2, x3, x4⟩, -⟩ := Pa_X4 hT h
      refine (s4_one (i0 := li T p a) (j0 := li T p c) (k0 := li T a c) (l0 := li T (T p a).toNat (T p c).toNat) (by omega) (by omega) (by omega) (by omega) (iv_eq ⟨fun z => z.1, fun z => ⟨z, rfl, rfl, rfl, rfl⟩⟩) (fun i j k l hn => iv_f (fun z => hn z.2))).symm
    · rw [iv_f (fun z => h z.1)]
      unfold s4
      exact (sm_none (fun i _ => s3_none (fun j k l _ _ _ => iv_f (fun z => h z.1.1)))).symm
  have a2 : ∀ i j k l, s3 15 (fun p a c => iv ((Pa T p a c ∧ g i = true ∧ g j = true ∧ g k = true ∧ g l = true) ∧ i = li T p a ∧ j = li T p c ∧ k = li T a c ∧ l = li T (T p a).toNat (T p c).toNat)) = iv (X4 T i j k l ∧ g i = true ∧ g j = true ∧ g k = true ∧ g l = true) := by
    intro i j k l
    by_cases h : X4 T i j k l
    · obtain ⟨p, a, b, c, d, e, ⟨p1, a1, b1⟩, ⟨p2, c1, d1⟩, ⟨a2, c2, e1⟩, ⟨b2, d2, e2⟩, t1, t2, t3, t4, nbc⟩ := X4_pts hT h
      obtain ⟨⟨bi, bj, bk, bl⟩, ⟨n12, n13, n14, n23, n24, n34⟩, -⟩ := id h
      have hP : Pa T p a c := ⟨by omega, by omega, by omega, by omega, by rw [t1, t2, Int.toNat_natCast, Int.toNat_natCast, t4, t3]⟩
      obtain ⟨b', eb, eb2, lp, la, -, q1, q2, q3, ci, -, i1, i2, i3⟩ := li_s hT hP.1
      obtain ⟨d', ed, ed2, -, lc, -, r1, r2, r3, cj, -, j1, j2, j3⟩ := li_s hT hP.2.1
      obtain ⟨e', ee, ee2, -, -, -, s1, s2, s3', ck, -, k1, k2, k3⟩ := li_s hT hP.2.2.1
      have hbd : ¬ T b d = -1 := by omega
      obtain ⟨f', ef, ef2, -, -, -, v1, v2, v3, cl, -, m1, m2, m3'⟩ := li_s hT hbd
      have ei : i = li T p a := on_1 hT bi ci q1 p1 a1 i1 i2
      have ej : j = li T p c := on_1 hT bj cj r1 p2 c1 j1 j2
      have ek : k = li T a c := on_1 hT bk ck s1 a2 c2 k1 k2
      have el : l = li T (T p a).toNat (T p c).toNat := by
        rw [t1, t2, Int.toNat_natCast, Int.toNat_natCast]
        exact on_1 hT bl cl v1 b2 d2 m1 m2
      refine s3_one (i0 := p) (j0 := a) (k0 := c) (by omega) (by omega) (by omega) (iv_eq ⟨fun z => ⟨h, z.1.2⟩, fun z => ⟨⟨hP, z.2⟩, ei, ej, ek, el⟩⟩) (fun p' a' c' _ _ _ hn => iv_f (fun z => hn ?_))
      obtain ⟨⟨w0, -⟩, w1, w2, w3, -⟩ := z
      obtain ⟨-, -, -, -, -, -, -, -, -, -, -, y1, y2, -⟩ := li_s hT w0.1
      obtain ⟨-, -, -, -, -, -, -, -, -, -, -, y3, y4, -⟩ := li_s hT w0.2.1
      obtain ⟨-, -, -, -, -, -, -, -, -, -, -, y5, y6, -⟩ := li_s hT w0.2.2.1
      rw [← w1] at y1 y2
      rw [← w2] at y3 y4
      rw [← w3] at y5 y6
      refine ⟨?_, ?_, ?_⟩
      · by_cases z : p' = p
        · exact z
        · exact absurd (on_1 hT bi bj z y1 p1 y3 p2) n12
      · by_cases z : a' = a
        · exact z
        · exact absurd (on_1 hT bi bk z y2 a1 y5 a2) n13
      · by_cases z : c' = c
        · exact z
        · exact absurd (on_1 hT bj bk z y4 c1 y6 c2) n23
    · rw [iv_f (fun z => h z.1)]
      refine s3_none (fun p a c _ _ _ => iv_f (fun z => h ?_))
      obtain ⟨⟨w0, -⟩, rfl, rfl, rfl, rfl⟩ := z
      exact Pa_X4 hT w0
  rw [s3_ext (fun p a c _ _ _ => a1 p a c), s3_s4]
  exact s4_ext (fun i j k l _ _ _ _ => a2 i j k l)
end
/-! ##### 19.m.054.35e ##### -/
section
/-! ===== how many quadrilaterals (pure) ===== -/
theorem nmF_inv {T : sT} {m : Nat} : ∀ (f k t : Nat), nmF T m k f = (t : Int) → k ≤ t ∧ t < k + f ∧ mk3 T ((trL T 225).getD t 0) = m
  | 0, k, t, h => by unfold nmF at h; omega
  | f + 1, k, t, h => by
    unfold nmF at h
    split at h
    · next e =>
      have : k = t := by omega
      subst this
      exact ⟨Nat.le_refl _, by omega, e⟩
    · obtain ⟨g1, g2, g3⟩ := nmF_inv f (k + 1) t h
      exact ⟨by omega, by omega, g3⟩
theorem nm_inv {T : sT} {m t : Nat} (h : nmT T m = (t : Int)) : t < (trL T 225).length ∧ mN T t = m := by
  obtain ⟨-, g2, g3⟩ := nmF_inv _ _ _ h
  exact ⟨by omega, g3⟩
theorem X4_meets {V : Nat} {T : sT} (hT : sOk V T) {i j k l : Nat} (h : X4 T i j k l) : ¬ mN T i &&& mN T j = 0 := by
  obtain ⟨p, p1, p2⟩ := X4_meet hT h
  intro z
  have : (mN T i &&& mN T j).testBit p = true := by
    rw [Nat.testBit_and]
    unfold onL at p1 p2
    rw [p1, p2]
    rfl
  rw [z, Nat.zero_testBit] at this
  cases this
/-- a number that begins a quadrilateral, and its fourth triple -/
theorem qdB_X4 {V : Nat} {T : sT} (hT : sOk V T) {i j k l : Nat} (hi : i < 35) (hj : j < 35) (hk : k < 35) : (qdB T (i * 1225 + (j * 35 + k)) = true ∧ nmT T (qR T (i * 1225 + (j * 35 + k))) = (l : Int)) ↔ (X4 T i j k l ∧ i < j ∧ j < k ∧ k < l) := by
  have e1 : (i * 1225 + (j * 35 + k)) / 1225 = i := by omega
  have e2 : (i * 1225 + (j * 35 + k)) / 35 % 35 = j := by omega
  have e3 : (i * 1225 + (j * 35 + k)) % 35 = k := by omega
  unfold qdB
  rw [decide_eq_true_iff]
  unfold qR
  rw [e1, e2, e3]
  constructor
  · rintro ⟨⟨a1, a2, a3, a4, a5⟩, a6⟩
    obtain ⟨b1, b2⟩ := nm_inv a6
    exact ⟨⟨⟨by omega, by omega, by omega, b1⟩, ⟨by omega, by omega, by omega, by omega, by omega, by omega⟩, b2.symm⟩, a1, a2, by omega⟩
  · rintro ⟨h, a1, a2, a3⟩
    have m := X4_meets hT h
    obtain ⟨⟨b1, b2, b3, b4⟩, -, x⟩ := h
    have e : nmT T (mN T i ^^^ mN T j ^^^ mN T k) = (l : Int) := by rw [x]; exact nm_mk hT b4
    exact ⟨⟨a1, a2, b3, m, by omega⟩, e⟩
/-- sums over the quadrilaterals' numbers -/
theorem qd_sum {V : Nat} {T : sT} (hT : sOk V T) (g : Nat → Nat → Nat → Nat → Bool) : sm (fun n => iv (qdB T n = true ∧ g (n / 1225) (n / 35 % 35) (n % 35) (nmT T (qR T n)).toNat = true)) 42875 = s4 35 (fun i j k l => iv ((X4 T i j k l ∧ i < j ∧ j < k ∧ k < l) ∧ g i j k l = true)) := by
  have l35 := trL_35 hT 225
  rw [show 42875 = 35 * 1225 by rfl, sm_prod]
  unfold s4 s3
  refine sm_ext 35 (fun i hi => ?_)
  rw [show 1225 = 35 * 35 by rfl, sm_prod]
  refine sm_ext 35 (fun j hj => sm_ext 35 (fun k hk => ?_))
  rw [show 35 * 35 = 1225 by rfl]
  have e1 : (i * 1225 + (j * 35 + k)) / 1225 = i := by omega
  have e2 : (i * 1225 + (j * 35 + k)) / 35 % 35 = j := by omega
  have e3 : (i * 1225 + (j * 35 + k)) % 35 = k := by omega
  rw [e1, e2, e3]
  by_cases h : qdB T (i * 1225 + (j * 35 + k)) = true
  · have h2 := of_decide_eq_true h
    rcases nm_lt (T := T) (qR T (i * 1225 + (j * 35 + k))) with z | ⟨t, t1, t2⟩
    · omega
    · have q := (qdB_X4 hT (l := t) hi hj hk).mp ⟨h, t2⟩
      rw [t2, Int.toNat_natCast]
      refine (sm_one (k := t) (by omega) (iv_eq ⟨fun z => ⟨h, z.2⟩, fun z => ⟨q, z.2⟩⟩) (fun l _ hl => iv_f (fun z => hl ?_))).symm
      have := (qdB_X4 hT hi hj hk).mpr z.1
      omega
  · rw [iv_f (fun z => h z.1)]
    exact (sm_none (fun l _ => iv_f (fun z => h ((qdB_X4 hT hi hj hk).mpr z.1).1))).symm
theorem qd_len {V : Nat} {T : sT} (hT : sOk V T) : (fL (qdB T) 42875).length = s4 35 (fun i j k l => iv (X4 T i j k l ∧ i < j ∧ j < k ∧ k < l)) := by
  rw [fL_sm]
  have := qd_sum hT (fun _ _ _ _ => true)
  rw [sm_ext 42875 (fun n _ => iv_eq (q := qdB T n = true ∧ true = true) ⟨fun z => ⟨z, rfl⟩, fun z => z.1⟩), this]
  exact s4_ext (fun i j k l _ _ _ _ => iv_eq ⟨fun z => z.1, fun z => ⟨z, rfl⟩⟩)
/-- with what is said of each triple: 24 points with two beside them for each quadrilateral -/
theorem qd_24 {V : Nat} {T : sT} (hT : sOk V T) (g : Nat → Bool) : 24 * sm (fun n => iv (qdB T n = true ∧ (g (n / 1225) && (g (n / 35 % 35) && (g (n % 35) && g (nmT T (qR T n)).toNat))) = true)) 42875 = s3 15 (fun p a c => iv (Pa T p a c ∧ g (li T p a) = true ∧ g (li T p c) = true ∧ g (li T a c) = true ∧ g (li T (T p a).toNat (T p c).toNat) = true)) := by
  obtain ⟨s1, s2, s3', s4'⟩ := X4_sym T
  have hs : sym4 (fun i j k l => X4 T i j k l ∧ g i = true ∧ g j = true ∧ g k = true ∧ g l = true) := ⟨fun i j k l h => ⟨s1 _ _ _ _ h.1, h.2.2.1, h.2.1, h.2.2.2.1, h.2.2.2.2⟩, fun i j k l h => ⟨s2 _ _ _ _ h.1, h.2.1, h.2.2.2.1, h.2.2.1, h.2.2.2.2⟩, fun i j k l h => ⟨s3' _ _ _ _ h.1, h.2.1, h.2.2.1, h.2.2.2.2, h.2.2.2.1⟩, fun i j k l h => s4' _ _ _ _ h.1⟩
  have A := Pa_sum hT g
  have B := sym_24 (n := 35) hs
  have C : sm (fun n => iv (qdB T n = true ∧ (g (n / 1225) && (g (n / 35 % 35) && (g (n % 35) && g (nmT T (qR T n)).toNat))) = true)) 42875 = s4 35 (fun i j k l => iv ((X4 T i j k l ∧ i < j ∧ j < k ∧ k < l) ∧ (g i && (g j && (g k && g l))) = true)) := qd_sum hT (fun i j k l => g i && (g j && (g k && g l)))
  have D : s4 35 (fun i j k l => iv ((X4 T i j k l ∧ i < j ∧ j < k ∧ k < l) ∧ (g i && (g j && (g k && g l))) = true)) = s4 35 (fun i j k l => iv ((X4 T i j k l ∧ g i = true ∧ g j = true ∧ g k = true ∧ g l = true) ∧ i < j ∧ j < k ∧ k < l)) := s4_ext (fun i j k l _ _ _ _ => iv_eq (by
    simp only [Bool.and_eq_true]
    exact ⟨fun z => ⟨⟨z.1.1, z.2⟩, z.1.2⟩, fun z => ⟨⟨z.1.1, z.2⟩, z.1.2⟩⟩))
  exact (congrArg (fun x => 24 * x) (C.trans D)).trans (B.symm.trans A.symm)
theorem sm_eq1 {n k : Nat} (h : k < n) : sm (fun i => iv (i = k)) n = 1 := sm_one h (iv_t rfl) (fun i _ g => iv_f g)
/-- points with two beside them: 15 times 14 times 12 at most -/
theorem Pa_2520 {V : Nat} {T : sT} (hT : sOk V T) : s3 15 (fun p a c => iv (Pa T p a c)) ≤ 2520 := by
  have hV := hT.2.1
  have h1 : ∀ p a, p < 15 → a < 15 → sm (fun c => iv (Pa T p a c)) 15 ≤ 12 * iv (¬ a = p) := by
    intro p a hp ha
    by_cases e : T p a = -1
    · rw [sm_none (fun c _ => iv_f (fun z => z.1 e))]
      exact Nat.zero_le _
    · obtain ⟨b, eb, eb2, l1, l2, l3, d1, d2, d3, -⟩ := li_s hT e
      have s : sm (fun c => iv (Pa T p a c) + iv (c = p) + iv (c = a) + iv (c = b)) 15 ≤ sm (fun _ => 1) 15 := sm_le 15 (fun c _ => by
        by_cases c1 : c = p
        · rw [iv_f (fun z => by obtain ⟨-, z2, -⟩ := z; obtain ⟨-, -, -, -, -, -, z3, -⟩ := li_s hT z2; omega), iv_t c1, iv_f (by omega), iv_f (by omega)]; omega
        · by_cases c2 : c = a
          · rw [iv_f (fun z => by obtain ⟨-, -, z2, -⟩ := z; obtain ⟨-, -, -, -, -, -, z3, -⟩ := li_s hT z2; omega), iv_f c1, iv_t c2, iv_f (by omega)]; omega
          · by_cases c3 : c = b
            · rw [iv_f (fun z => by obtain ⟨-, -, -, z2, -⟩ := z; omega), iv_f c1, iv_f c2, iv_t c3]; omega
            · have := iv_le (p := Pa T p a c)
              rw [iv_f c1, iv_f c2, iv_f c3]; omega)
      rw [sm_add, sm_add, sm_add, sm_eq1 (by omega), sm_eq1 (by omega), sm_eq1 (by omega), sm_const] at s
      rw [iv_t (by omega)]
      omega
  have h2 : ∀ p, p < 15 → sm (fun a => sm (fun c => iv (Pa T p a c)) 15) 15 ≤ 168 := by
    intro p hp
    have s := sm_le (f := fun a => sm (fun c => iv (Pa T p a c)) 15) (g := fun a => 12 * iv (¬ a = p)) 15 (fun a ha => h1 p a hp ha)
    rw [sm_mul] at s
    have t : sm (fun a => iv (¬ a = p) + iv (a = p)) 15 = sm (fun _ => 1) 15 := sm_ext 15 (fun a _ => by
      by_cases e : a = p
      · rw [iv_f (fun z => z e), iv_t e]
      · rw [iv_t e, iv_f e])
    rw [sm_add, sm_eq1 hp, sm_const] at t
    omega
  have s := sm_le (f := fun p => sm (fun a => sm (fun c => iv (Pa T p a c)) 15) 15) (g := fun _ => 168) 15 h2
  rw [sm_const] at s
  exact s
/-- 105 quadrilaterals at most -/
theorem q105 {V : Nat} {T : sT} (hT : sOk V T) : (fL (qdB T) 42875).length ≤ 105 := by
  have a := qd_24 hT (fun _ => true)
  have b := Pa_2520 hT
  have c : s3 15 (fun p a c => iv (Pa T p a c ∧ true = true ∧ true = true ∧ true = true ∧ true = true)) = s3 15 (fun p a c => iv (Pa T p a c)) := s3_ext (fun p a c _ _ _ => iv_eq ⟨fun z => z.1, fun z => ⟨z, rfl, rfl, rfl, rfl⟩⟩)
  have d : sm (fun n => iv (qdB T n = true ∧ (true && (true && (true && true))) = true)) 42875 = (fL (qdB T) 42875).length := by
    rw [fL_sm]
    exact sm_ext 42875 (fun n _ => iv_eq ⟨fun z => z.1, fun z => ⟨z, rfl⟩⟩)
  rw [c, d] at a
  omega
end
/-! ##### 19.m.055.36a ##### -/
section
/-! ===== the class's state; a triple added ===== -/
theorem k_settle3 {d V : Nat} {T : sT} {hp : amH} {R : xQ} (hH : bHk 84 bTT hp) (hB : bdOk hp 3 V T) (hR : ∀ hp1, bHk 84 bTT hp1 → bFx [3, 5, 7, 49, 50, 51] hp hp1 → bdOk hp1 3 V T → lsN hp1 3 T 225 → qdN hp1 T 42875 → R (.inl none) hp1) : xK (d + 5) 185 [.ref 0] hp R := by
  refine xin (M := am_m185) rfl rfl rfl ?_
  refine xald 1 ⟨u185, _, rfl⟩ rfl rfl ?_
  refine xgetD 4 (3) hH ⟨u185, _, rfl⟩ rfl (by decide) (by decide) rfl rfl (by decide) ?_
  refine xcallC 7 (o := 3) [] [] hH ⟨u185, _, rfl⟩ rfl rfl (by decide) rfl (by decide) rfl ⟨rfl, rfl, rfl, rfl⟩ rfl (k_list (o := 3) (Or.inl rfl) hH hB (fun hp4 hH4 F4 B4 L4 => ⟨_, rfl, ?_⟩))
  refine xald 8 ⟨u185, _, rfl⟩ rfl rfl ?_
  refine xgetD 11 (49) hH4 ⟨u185, _, rfl⟩ rfl (by decide) (by decide) rfl rfl (by decide) ?_
  refine xald 12 ⟨u185, _, rfl⟩ rfl rfl ?_
  refine xgetD 15 (3) hH4 ⟨u185, _, rfl⟩ rfl (by decide) (by decide) rfl rfl (by decide) ?_
  refine xcallC 18 (o := 49) [.ref 3] [] hH4 ⟨u185, _, rfl⟩ rfl rfl (by decide) rfl (by decide) rfl ⟨rfl, rfl, rfl, rfl⟩ rfl (k_gath hH4 B4 L4 (q105 hB.2.1) (fun hp15 hH15 F15 Q15 => ⟨_, rfl, ?_⟩))
  exact xretV ⟨u185, _, rfl⟩ rfl (hR _ hH15 ((F4.mono (by simp)).trans (F15.mono (by simp))) (bdOk_fr B4 (bFx_n F15 (by simp)) (fun _ => bFx_n F15 (by simp)) (fun _ => bFx_n F15 (by simp))) (lsN_fr L4 (bFx_n F15 (by simp)) (fun _ => bFx_n F15 (by simp)) (fun _ => bFx_n F15 (by simp))) Q15)
noncomputable def clS (hp : amH) (q : sR) (n : Nat) (h : Nat → sR) (sv : Option sR) : Prop := bdOk hp 3 q.1 q.2.1 ∧ lsN hp 3 q.2.1 225 ∧ qdN hp q.2.1 42875 ∧ (∀ i, i < 3 → rN hp 13 i = q.2.2 i) ∧ hyC hp n h sv
/-- the text and the reference stay as they were -/
noncomputable def cF (hp hp1 : amH) : Prop := ∀ c k, (c = 1 ∨ c = 2 ∨ 66 ≤ c) → bFld hp1 c k = bFld hp c k
theorem cF.refl {hp : amH} : cF hp hp := fun _ _ _ => rfl
theorem cF.trans {a b c : amH} (h1 : cF a b) (h2 : cF b c) : cF a c := fun i k e => (h2 i k e).trans (h1 i k e)
theorem cF_x {W : List Nat} {hp hp1 : amH} (F : bFx W hp hp1) (h : ∀ c, c ∈ W → 3 ≤ c ∧ c < 66) : cF hp hp1 := fun c k e => F c k (fun z => by have := h c z; omega)
theorem cF_hy {hp hp1 : amH} (F : hyF hp hp1) : cF hp hp1 := fun c k e => F c k (by omega)
theorem cF_U {hp hp1 : amH} {c i : Nat} {m : Int} (U : rU hp hp1 c i m) (h : 3 ≤ c ∧ c < 66) : cF hp hp1 := fun c1 k e => U.2 c1 k (fun z => by omega)
theorem snOk_ty {hp : amH} {s V : Nat} {T : sT} {f g : Nat → Int} (h : snOk hp s (V, T, f)) (e : ∀ i, i < 3 → f i = g i) : snOk hp s (V, T, g) :=
  ⟨h.1, h.2.1, h.2.2.1, h.2.2.2.1, h.2.2.2.2.1, fun i hi => (h.2.2.2.2.2 i hi).trans (e i hi)⟩
theorem hyC_ty {hp : amH} {n V : Nat} {h : Nat → sR} {sv : Option sR} {T : sT} {f g : Nat → Int} (hY : hyC hp (pM n + 1) (pH n h (V, T, f)) sv) (e : ∀ i, i < 3 → f i = g i) : hyC hp (pM n + 1) (pH n h (V, T, g)) sv := by
  obtain ⟨y1, y2, y3, ⟨F, hA, y4⟩, y5⟩ := hY
  refine ⟨y1, y2, y3, ⟨F, hA, fun k hk => ?_⟩, y5⟩
  have := y4 k hk
  unfold pH at this ⊢
  by_cases g1 : k = pM n
  · rw [if_pos g1] at this ⊢
    exact snOk_ty this e
  · rw [if_neg g1] at this ⊢
    exact this
/-- the kept systems are one more -/
theorem k_cmS {d n : Nat} {h : Nat → sR} {sv : Option sR} {q : sR} {hp : amH} {R : xQ} (hH : bHk 84 bTT hp) (hS : clS hp q n h sv) (hR : ∀ hp1, bHk 84 bTT hp1 → hyF hp hp1 → clS hp1 q (pM n + 1) (pH n h q) sv → R (.inl none) hp1) : xK (d + 3) 184 [.ref 0] hp R :=
  k_cmem hH hS.2.2.2.2 hS.1 hS.2.1 (fun hp1 g1 g2 g3 => hR hp1 g1 g2 ⟨bdOk_fr hS.1 (hyF_n g2 (by omega)) (fun _ => hyF_n g2 (by omega)) (fun _ => hyF_n g2 (by omega)), lsN_fr hS.2.1 (hyF_n g2 (by omega)) (fun _ => hyF_n g2 (by omega)) (fun _ => hyF_n g2 (by omega)), qdN_fr hS.2.2.1 (fun c k hc => g2 c k (by omega)), fun i hi => (hyF_n g2 (by omega)).trans (hS.2.2.2.1 i hi), hyC_ty g3 hS.2.2.2.1⟩)
/-- the board changed and settled -/
theorem k_stS {d V n : Nat} {h : Nat → sR} {sv : Option sR} {T : sT} {ty : Nat → Int} {hp : amH} {R : xQ} (hH : bHk 84 bTT hp) (hB : bdOk hp 3 V T) (ht : ∀ i, i < 3 → rN hp 13 i = ty i) (hY : hyC hp n h sv) (hR : ∀ hp1, bHk 84 bTT hp1 → bFx [3, 5, 7, 49, 50, 51] hp hp1 → clS hp1 (V, T, ty) n h sv → R (.inl none) hp1) : xK (d + 5) 185 [.ref 0] hp R :=
  k_settle3 hH hB (fun hp1 g1 g2 g3 g4 g5 => hR hp1 g1 g2 ⟨g3, g4, g5, fun i hi => (bFx_n g2 (by simp)).trans (ht i hi), hyC_fr hY (fun c k c1 c2 => g2 c k (by simp; omega))⟩)
/-- what the class throws for it -/
noncomputable def exE (c : Int) (E : Nat) : Prop := (c = 1 ∧ E = 1) ∨ (c = 2 ∧ E = 0) ∨ (c = 3 ∧ E = 2)
theorem u126 : bUp 0 am_m126.1 = true := by decide +kernel
theorem k_126E {d V n : Nat} {h : Nat → sR} {sv : Option sR} {T : sT} {ty : Nat → Int} {hp : amH} {R : xQ} {a b c : Int32} (hH : bHk 84 bTT hp) (hS : clS hp (V, T, ty) n h sv)
    (hT : ∀ E, ¬ aCd V T a.toInt b.toInt c.toInt = 0 → exE (aCd V T a.toInt b.toInt c.toInt) E → R (.inr E) hp)
    (hR : ∀ (z : Int32) hp1, bHk 84 bTT hp1 → cF hp hp1 → aCd V T a.toInt b.toInt c.toInt = 0 → clS hp1 (V, sPut T a.toInt.toNat b.toInt.toNat c.toInt.toNat, ty) (pM n + 1) (pH n h (V, T, ty)) sv → z.toInt = nmT (sPut T a.toInt.toNat b.toInt.toNat c.toInt.toNat) (m3 a.toInt.toNat b.toInt.toNat c.toInt.toNat) → R (.inl (some (.int z))) hp1) : xK (d + 6) 126 [.ref 0, .int a, .int b, .int c] hp R := by
  have hB : bdOk hp 3 V T := hS.1
  have hV := hB.2.1.2.1
  refine xin (M := am_m126) rfl rfl rfl ?_
  refine xald 1 ⟨u126, _, rfl⟩ rfl rfl ?_
  refine xild 2 ⟨u126, _, rfl⟩ rfl rfl ?_
  refine xild 3 ⟨u126, _, rfl⟩ rfl rfl ?_
  refine xild 4 ⟨u126, _, rfl⟩ rfl rfl ?_
  refine xcallT 7 (o := 0) [.int _, .int _, .int _] [] hH ⟨u126, _, rfl⟩ rfl rfl (by decide) rfl (by decide) rfl ⟨rfl, rfl, rfl, rfl⟩ rfl (k_rq3 hH hB.1 (fun g4 => Or.inl ⟨_, rfl, ?_⟩) (fun g4 => Or.inr ⟨_, rfl, rfl, hT 1 (by rw [aCd_1 (by omega)]; omega) (by rw [aCd_1 (by omega)]; exact Or.inl ⟨g4, rfl⟩)⟩) (fun g4 => Or.inr ⟨_, rfl, rfl, hT 0 (by rw [aCd_1 (by omega)]; omega) (by rw [aCd_1 (by omega)]; exact Or.inr (Or.inl ⟨g4, rfl⟩))⟩))
  have k4 := gSet_0.mp g4
  refine xild 8 ⟨u126, _, rfl⟩ rfl rfl ?_
  refine xild 9 ⟨u126, _, rfl⟩ rfl rfl ?_
  refine xild 10 ⟨u126, _, rfl⟩ rfl rfl ?_
  refine xcallS 13 [.int _, .int _, .int _] [] hH ⟨u126, _, rfl⟩ rfl rfl rfl rfl rfl (k_three (x := a.toInt.toNat) (y := b.toInt.toNat) (z := c.toInt.toNat) (by omega) (by omega) (by omega) (by omega) (by omega) (by omega) (fun z10 h10 => ⟨_, rfl, ?_⟩))
  refine xist2 15 ⟨u126, _, rfl⟩ rfl rfl ?_
  refine xald 16 ⟨u126, _, rfl⟩ rfl rfl ?_
  refine xgetD 19 (3) hH ⟨u126, _, rfl⟩ rfl (by decide) (by decide) rfl rfl (by decide) ?_
  refine xild2 21 ⟨u126, _, rfl⟩ rfl rfl ?_
  refine xcallC 24 (o := 3) [.int _] [] hH ⟨u126, _, rfl⟩ rfl rfl (by decide) rfl (by decide) rfl ⟨rfl, rfl, rfl, rfl⟩ rfl (k_takU (Or.inl rfl) hH hB (a := a.toInt.toNat) (b := b.toInt.toNat) (c := c.toInt.toNat) h10 (by omega) (by omega) (by omega) (by omega) (by omega) (by omega) (fun z21 h21 => ⟨_, rfl, ?_⟩))
  refine xif_ne 27 ⟨u126, _, rfl⟩ rfl (fun c24 => ?_) (fun c24 => ?_)
  · have fr : sFree T a.toInt.toNat b.toInt.toNat c.toInt.toNat := by omega
    refine xald 38 ⟨u126, _, rfl⟩ rfl rfl ?_
    refine xcallC 41 (o := 0) [] [] hH ⟨u126, _, rfl⟩ rfl rfl (by decide) rfl (by decide) rfl ⟨rfl, rfl, rfl, rfl⟩ rfl (k_cmS hH hS (fun hp38 hH38 F38 S38 => ⟨_, rfl, ?_⟩))
    refine xald 42 ⟨u126, _, rfl⟩ rfl rfl ?_
    refine xgetD 45 (3) hH38 ⟨u126, _, rfl⟩ rfl (by decide) (by decide) rfl rfl (by decide) ?_
    refine xild2 47 ⟨u126, _, rfl⟩ rfl rfl ?_
    refine xcallC 50 (o := 3) [.int _] [] hH38 ⟨u126, _, rfl⟩ rfl rfl (by decide) rfl (by decide) rfl ⟨rfl, rfl, rfl, rfl⟩ rfl (k_bputU (Or.inl rfl) hH38 S38.1 (a := a.toInt.toNat) (b := b.toInt.toNat) (c := c.toInt.toNat) h10 (by show _ < V; omega) (by show _ < V; omega) (by show _ < V; omega) (by omega) (by omega) (by omega) fr (fun hp47 hH47 F47 B47 => ⟨_, rfl, ?_⟩))
    refine xald 51 ⟨u126, _, rfl⟩ rfl rfl ?_
    refine xcallC 54 (o := 0) [] [] hH47 ⟨u126, _, rfl⟩ rfl rfl (by decide) rfl (by decide) rfl ⟨rfl, rfl, rfl, rfl⟩ rfl (k_stS hH47 (V := V) (T := sPut T a.toInt.toNat b.toInt.toNat c.toInt.toNat) (ty := ty) B47 (fun i hi => (bFx_n F47 (by simp)).trans (S38.2.2.2.1 i hi)) (hyC_fr S38.2.2.2.2 (fun c k c1 c2 => F47 c k (by simp; omega))) (fun hp51 hH51 F51 S51 => ⟨_, rfl, ?_⟩))
    refine xald 55 ⟨u126, _, rfl⟩ rfl rfl ?_
    refine xgetD 58 (3) hH51 ⟨u126, _, rfl⟩ rfl (by decide) (by decide) rfl rfl (by decide) ?_
    refine xild2 60 ⟨u126, _, rfl⟩ rfl rfl ?_
    refine xcallC 63 (o := 3) [.int _] [] hH51 ⟨u126, _, rfl⟩ rfl rfl (by decide) rfl (by decide) rfl ⟨rfl, rfl, rfl, rfl⟩ rfl (k_nof (Or.inl rfl) hH51 S51.1 S51.2.1 (a := a.toInt.toNat) (b := b.toInt.toNat) (c := c.toInt.toNat) h10 (by show _ < V; omega) (by show _ < V; omega) (by show _ < V; omega) (by omega) (by omega) (by omega) (fun z60 h60 => ⟨_, rfl, ?_⟩))
    exact xret ⟨u126, _, rfl⟩ rfl (hR _ hp51 hH51 ((cF_hy F38).trans ((cF_x F47 (by simp)).trans (cF_x F51 (by simp)))) (aCd_2 g4 fr) S51 h60)
  · exact xthr ⟨u126, _, rfl⟩ (by decide) rfl (by decide) (hT 2 (by rw [aCd_3 g4 (by omega)]; decide) (by rw [aCd_3 g4 (by omega)]; exact Or.inr (Or.inr ⟨rfl, rfl⟩)))
end
/-! ##### 19.m.056.36b ##### -/
section
/-! ===== how many triples there are, one taken, one put (pure) ===== -/
theorem trL_sm {T : sT} : ∀ n, (trL T n).length = sm (fun i => iv (trB T i = true)) n
  | 0 => rfl
  | n + 1 => by
    show (trL T (n + 1)).length = sm (fun i => iv (trB T i = true)) n + iv (trB T n = true)
    by_cases h : trB T n = true
    · rw [trL_add h, List.length_append, List.length_singleton, trL_sm n, iv_t h]
    · rw [show trL T (n + 1) = trL T n by show (if trB T n = true then _ else _) = _; rw [if_neg h], trL_sm n, iv_f h]
      rfl
theorem trB_take {V : Nat} {T : sT} (hT : sOk V T) {x y z : Nat} (e : T x y = (z : Int)) (n : Nat) : trB (sTake T x y z) n = true ↔ (trB T n = true ∧ ¬ n = cd T x y) := by
  obtain ⟨w, ew, l1, l2, l3, d1, d2, d3, -⟩ := sOk_at hT e (by omega)
  have : w = z := by omega
  subst this
  have hne : ¬ T x y = -1 := by omega
  obtain ⟨g1, g2, g3⟩ := cd_of hT hne
  constructor
  · intro h
    have k := of_decide_eq_true h
    have hp : ¬ sPr x y w (n / 15) (n % 15) := fun z => by
      unfold sTake at k
      rw [if_pos z] at k
      omega
    have k2 : sTake T x y w (n / 15) (n % 15) = T (n / 15) (n % 15) := by unfold sTake; rw [if_neg hp]
    rw [k2] at k
    refine ⟨decide_eq_true k, fun z => hp ?_⟩
    subst z
    obtain ⟨q0, q1, q2⟩ := g3
    obtain ⟨v, ev, v1, v2, v3⟩ := tr_pts hT g1
    rw [ev, Int.toNat_natCast] at q1 q2
    have c := cd_pr hT g1 (u := x) (v := y) (by rw [ev, Int.toNat_natCast]; exact ⟨q0, q1, q2⟩)
    have c1 := c.1
    rw [ev, e] at c1
    exact ⟨by omega, by omega, by omega⟩
  · rintro ⟨h, hn⟩
    have k := of_decide_eq_true h
    have hp : ¬ sPr x y w (n / 15) (n % 15) := fun hq => hn (by
      obtain ⟨v, ev, v1, v2, v3⟩ := tr_pts hT h
      have c := cd_pr hT h (u := n / 15) (v := n % 15) (by rw [ev, Int.toNat_natCast]; exact ⟨by omega, by omega, by omega⟩)
      have c0 : T (n / 15) (n % 15) = ((x + y + w - n / 15 - n % 15 : Nat) : Int) := by
        have := cd_pr hT g1 (u := n / 15) (v := n % 15) (by
          obtain ⟨u, eu, u1, u2, u3⟩ := tr_pts hT g1
          have cc := (cd_pr hT g1 (u := x) (v := y) g3).1
          rw [eu, e] at cc
          rw [eu, Int.toNat_natCast] at g3 ⊢
          obtain ⟨q0, q1, q2⟩ := hq
          obtain ⟨r0, r1, r2⟩ := g3
          exact ⟨q0, by omega, by omega⟩)
        have cc := (cd_pr hT g1 (u := x) (v := y) g3).1
        rw [e] at cc
        have t1 := this.1
        obtain ⟨q0, q1, q2⟩ := hq
        omega
      have := cd_pr hT g1 (u := n / 15) (v := n % 15) (by
          obtain ⟨u, eu, u1, u2, u3⟩ := tr_pts hT g1
          have cc := (cd_pr hT g1 (u := x) (v := y) g3).1
          rw [eu, e] at cc
          rw [eu, Int.toNat_natCast] at g3 ⊢
          obtain ⟨q0, q1, q2⟩ := hq
          obtain ⟨r0, r1, r2⟩ := g3
          exact ⟨q0, by omega, by omega⟩)
      exact c.2.2.symm.trans this.2.2)
    refine decide_eq_true ?_
    rw [show sTake T x y w (n / 15) (n % 15) = T (n / 15) (n % 15) by unfold sTake; rw [if_neg hp]]
    exact k
/-- one triple less -/
theorem len_take {V : Nat} {T : sT} (hT : sOk V T) {x y z : Nat} (e : T x y = (z : Int)) : (trL T 225).length = (trL (sTake T x y z) 225).length + 1 := by
  have hne : ¬ T x y = -1 := by omega
  obtain ⟨g1, g2, -⟩ := cd_of hT hne
  rw [trL_sm, trL_sm]
  have : sm (fun i => iv (trB T i = true)) 225 = sm (fun i => iv (trB (sTake T x y z) i = true) + iv (i = cd T x y)) 225 := sm_ext 225 (fun i _ => by
    have q := trB_take hT e i
    by_cases h : i = cd T x y
    · rw [iv_f (fun w => (q.mp w).2 h), iv_t h, h, iv_t g1]
    · rw [iv_f h]
      exact iv_eq ⟨fun w => q.mpr ⟨w, h⟩, fun w => (q.mp w).1⟩)
  rw [this, sm_add, sm_eq1 g2]
end
/-! ##### 19.m.057.36c ##### -/
section
/-! ===== the class's undo, save, restore; remove on both sides ===== -/
theorem u173 : bUp 0 am_m173.1 = true := by decide +kernel
theorem u174 : bUp 0 am_m174.1 = true := by decide +kernel
theorem u175 : bUp 0 am_m175.1 = true := by decide +kernel
theorem u127 : bUp 0 am_m127.1 = true := by decide +kernel
theorem k_173E {d n : Nat} {h : Nat → sR} {sv : Option sR} {q : sR} {hp : amH} {R : xQ} (hH : bHk 84 bTT hp) (hS : clS hp q n h sv)
    (hR : ∀ (z : Int32) hp1, bHk 84 bTT hp1 → cF hp hp1 → ((n = 0 ∧ z.toInt = -1 ∧ clS hp1 q n h sv) ∨ (0 < n ∧ z.toInt = ((n - 1 : Nat) : Int) ∧ clS hp1 (h (n - 1)) (n - 1) h sv)) → R (.inl (some (.int z))) hp1) : xK (d + 6) 173 [.ref 0] hp R := by
  refine xin (M := am_m173) rfl rfl rfl ?_
  refine xald 1 ⟨u173, _, rfl⟩ rfl rfl ?_
  refine xgetD 4 (14) hH ⟨u173, _, rfl⟩ rfl (by decide) (by decide) rfl rfl (by decide) ?_
  refine xald 5 ⟨u173, _, rfl⟩ rfl rfl ?_
  refine xgetD 8 (3) hH ⟨u173, _, rfl⟩ rfl (by decide) (by decide) rfl rfl (by decide) ?_
  refine xald 9 ⟨u173, _, rfl⟩ rfl rfl ?_
  refine xgetD 12 (13) hH ⟨u173, _, rfl⟩ rfl (by decide) (by decide) rfl rfl (by decide) ?_
  refine xcallC 15 (o := 14) [.ref 3, .ref 13] [] hH ⟨u173, _, rfl⟩ rfl rfl (by decide) rfl (by decide) rfl ⟨rfl, rfl, rfl, rfl⟩ rfl (k_tkb hH hS.2.2.2.2 (fun z12 hp12 hH12 F12 V12 => ⟨_, rfl, ?_⟩))
  refine xif_ne 18 ⟨u173, _, rfl⟩ rfl (fun c15 => ?_) (fun c15 => ?_)
  · obtain ⟨n0, y12, b12, t12⟩ : 0 < n ∧ hyC hp12 (n - 1) h sv ∧ bdOk hp12 3 (h (n - 1)).1 (h (n - 1)).2.1 ∧ ∀ i, i < 3 → rN hp12 13 i = (h (n - 1)).2.2 i := by
      rcases V12 with ⟨a, b, -⟩ | ⟨a, -, b, c, e⟩
      · omega
      · exact ⟨a, b, c, e⟩
    refine xald 21 ⟨u173, _, rfl⟩ rfl rfl ?_
    refine xcallC 24 (o := 0) [] [] hH12 ⟨u173, _, rfl⟩ rfl rfl (by decide) rfl (by decide) rfl ⟨rfl, rfl, rfl, rfl⟩ rfl (k_stS hH12 b12 t12 y12 (fun hp21 hH21 F21 S21 => ⟨_, rfl, ?_⟩))
    have d21 : rN hp21 14 0 = ((n - 1 : Nat) : Int) := S21.2.2.2.2.1
    refine xald 25 ⟨u173, _, rfl⟩ rfl rfl ?_
    refine xgetD 28 (14) hH21 ⟨u173, _, rfl⟩ rfl (by decide) (by decide) rfl rfl (by decide) ?_
    refine xgetC 31 hH21 ⟨u173, _, rfl⟩ rfl (by decide) (by decide) rfl rfl (by decide) (fun z28 h28 => ?_)
    exact xret ⟨u173, _, rfl⟩ rfl (hR _ hp21 hH21 ((cF_x F12 (by simp)).trans (cF_x F21 (by simp))) (Or.inr ⟨n0, by omega, S21⟩))
  · refine xcst 19 (-1) ⟨u173, _, rfl⟩ rfl (by decide) (fun z18 h18 => ?_)
    rcases V12 with ⟨a, b, e⟩ | ⟨a, b, -⟩
    · subst e
      exact xret ⟨u173, _, rfl⟩ rfl (hR _ _ hH12 cF.refl (Or.inl ⟨a, h18, hS⟩))
    · omega
theorem k_174E {d V n : Nat} {h : Nat → sR} {sv : Option sR} {T : sT} {ty : Nat → Int} {hp : amH} {R : xQ} (hH : bHk 84 bTT hp) (hS : clS hp (V, T, ty) n h sv)
    (hR : ∀ (z : Int32) hp1, bHk 84 bTT hp1 → cF hp hp1 → clS hp1 (V, T, ty) n h (some (V, T, ty)) → z.toInt = (((trL T 225).length : Nat) : Int) → R (.inl (some (.int z))) hp1) : xK (d + 3) 174 [.ref 0] hp R := by
  have hB : bdOk hp 3 V T := hS.1
  have hL : lsN hp 3 T 225 := hS.2.1
  have hQ : qdN hp T 42875 := hS.2.2.1
  have ht : ∀ i, i < 3 → rN hp 13 i = ty i := hS.2.2.2.1
  refine xin (M := am_m174) rfl rfl rfl ?_
  refine xald 1 ⟨u174, _, rfl⟩ rfl rfl ?_
  refine xgetD 4 (14) hH ⟨u174, _, rfl⟩ rfl (by decide) (by decide) rfl rfl (by decide) ?_
  refine xald 5 ⟨u174, _, rfl⟩ rfl rfl ?_
  refine xgetD 8 (3) hH ⟨u174, _, rfl⟩ rfl (by decide) (by decide) rfl rfl (by decide) ?_
  refine xald 9 ⟨u174, _, rfl⟩ rfl rfl ?_
  refine xgetD 12 (13) hH ⟨u174, _, rfl⟩ rfl (by decide) (by decide) rfl rfl (by decide) ?_
  refine xcallC 15 (o := 14) [.ref 3, .ref 13] [] hH ⟨u174, _, rfl⟩ rfl rfl (by decide) rfl (by decide) rfl ⟨rfl, rfl, rfl, rfl⟩ rfl (k_sav hH hS.2.2.2.2 hB hL (fun hp12 hH12 F12 Y12 => ⟨_, rfl, ?_⟩))
  have L12 : lsN hp12 3 T 225 := lsN_fr hL (hyF_n F12 (by omega)) (fun _ => hyF_n F12 (by omega)) (fun _ => hyF_n F12 (by omega))
  have l12 := L12.1
  refine xald 16 ⟨u174, _, rfl⟩ rfl rfl ?_
  refine xgetD 19 (3) hH12 ⟨u174, _, rfl⟩ rfl (by decide) (by decide) rfl rfl (by decide) ?_
  refine xgetC 22 hH12 ⟨u174, _, rfl⟩ rfl (by decide) (by decide) rfl rfl (by decide) (fun z19 h19 => ?_)
  exact xret ⟨u174, _, rfl⟩ rfl (hR _ hp12 hH12 (cF_hy F12) ⟨bdOk_fr hB (hyF_n F12 (by omega)) (fun _ => hyF_n F12 (by omega)) (fun _ => hyF_n F12 (by omega)), L12, qdN_fr hQ (fun c k hc => F12 c k (by omega)), fun i hi => (hyF_n F12 (by omega)).trans (ht i hi), ⟨Y12.1, Y12.2.1, Y12.2.2.1, Y12.2.2.2.1, ⟨Y12.2.2.2.2.1, snOk_ty Y12.2.2.2.2.2 ht⟩⟩⟩ (by omega))
theorem k_175E {d n : Nat} {h : Nat → sR} {sv : Option sR} {q : sR} {hp : amH} {R : xQ} (hH : bHk 84 bTT hp) (hS : clS hp q n h sv)
    (hT : sv = none → R (.inr 2) hp)
    (hR : ∀ (z : Int32) hp1 q1, bHk 84 bTT hp1 → cF hp hp1 → sv = some q1 → clS hp1 q1 0 h sv → z.toInt = (((trL q1.2.1 225).length : Nat) : Int) → R (.inl (some (.int z))) hp1) : xK (d + 6) 175 [.ref 0] hp R := by
  refine xin (M := am_m175) rfl rfl rfl ?_
  refine xald 1 ⟨u175, _, rfl⟩ rfl rfl ?_
  refine xgetD 4 (14) hH ⟨u175, _, rfl⟩ rfl (by decide) (by decide) rfl rfl (by decide) ?_
  refine xald 5 ⟨u175, _, rfl⟩ rfl rfl ?_
  refine xgetD 8 (3) hH ⟨u175, _, rfl⟩ rfl (by decide) (by decide) rfl rfl (by decide) ?_
  refine xald 9 ⟨u175, _, rfl⟩ rfl rfl ?_
  refine xgetD 12 (13) hH ⟨u175, _, rfl⟩ rfl (by decide) (by decide) rfl rfl (by decide) ?_
  refine xcallC 15 (o := 14) [.ref 3, .ref 13] [] hH ⟨u175, _, rfl⟩ rfl rfl (by decide) rfl (by decide) rfl ⟨rfl, rfl, rfl, rfl⟩ rfl (k_rsr hH hS.2.2.2.2 (fun z12 hp12 hH12 F12 V12 => ⟨_, rfl, ?_⟩))
  refine xif_ne 18 ⟨u175, _, rfl⟩ rfl (fun c15 => ?_) (fun c15 => ?_)
  · obtain ⟨q1, e1, y12, b12, t12⟩ : ∃ q1, sv = some q1 ∧ hyC hp12 0 h sv ∧ bdOk hp12 3 q1.1 q1.2.1 ∧ ∀ i, i < 3 → rN hp12 13 i = q1.2.2 i := by
      rcases V12 with ⟨a, b, -⟩ | ⟨q1, a, -, b, c, e⟩
      · omega
      · exact ⟨q1, a, b, c, e⟩
    refine xald 30 ⟨u175, _, rfl⟩ rfl rfl ?_
    refine xcallC 33 (o := 0) [] [] hH12 ⟨u175, _, rfl⟩ rfl rfl (by decide) rfl (by decide) rfl ⟨rfl, rfl, rfl, rfl⟩ rfl (k_stS hH12 b12 t12 y12 (fun hp30 hH30 F30 S30 => ⟨_, rfl, ?_⟩))
    have d30 := S30.2.1.1
    have d30 : rN hp30 3 1 = (((trL q1.2.1 225).length : Nat) : Int) := d30
    refine xald 34 ⟨u175, _, rfl⟩ rfl rfl ?_
    refine xgetD 37 (3) hH30 ⟨u175, _, rfl⟩ rfl (by decide) (by decide) rfl rfl (by decide) ?_
    refine xgetC 40 hH30 ⟨u175, _, rfl⟩ rfl (by decide) (by decide) rfl rfl (by decide) (fun z37 h37 => ?_)
    exact xret ⟨u175, _, rfl⟩ rfl (hR _ hp30 q1 hH30 ((cF_x F12 (by simp)).trans (cF_x F30 (by simp))) e1 S30 (by omega))
  · exact xthr ⟨u175, _, rfl⟩ (by decide) rfl (by decide) (by rcases V12 with ⟨a, b, e⟩ | ⟨q1, a, b, -⟩; subst e; exact hT a; omega)
/-- the triple numbered t taken -/
noncomputable def tkT (T : sT) (t : Nat) : sT := sTake T ((trL T 225).getD t 0 / 15) ((trL T 225).getD t 0 % 15) (T ((trL T 225).getD t 0 / 15) ((trL T 225).getD t 0 % 15)).toNat
theorem k_127E {d V n : Nat} {h : Nat → sR} {sv : Option sR} {T : sT} {ty : Nat → Int} {hp : amH} {R : xQ} {t : Int32} (hH : bHk 84 bTT hp) (hS : clS hp (V, T, ty) n h sv)
    (hT : ¬ gTri (trL T 225).length t.toInt = 0 → R (.inr 1) hp)
    (hR : ∀ (z : Int32) hp1, bHk 84 bTT hp1 → cF hp hp1 → gTri (trL T 225).length t.toInt = 0 → clS hp1 (V, tkT T t.toInt.toNat, ty) (pM n + 1) (pH n h (V, T, ty)) sv → z.toInt = (((trL (tkT T t.toInt.toNat) 225).length : Nat) : Int) → R (.inl (some (.int z))) hp1) : xK (d + 6) 127 [.ref 0, .int t] hp R := by
  have hB : bdOk hp 3 V T := hS.1
  have hL : lsN hp 3 T 225 := hS.2.1
  have L1 := hL.1
  refine xin (M := am_m127) rfl rfl rfl ?_
  refine xald 1 ⟨u127, _, rfl⟩ rfl rfl ?_
  refine xild 2 ⟨u127, _, rfl⟩ rfl rfl ?_
  refine xcallT 5 (o := 0) [.int _] [] hH ⟨u127, _, rfl⟩ rfl rfl (by decide) rfl (by decide) rfl ⟨rfl, rfl, rfl, rfl⟩ rfl (k_rqt hH L1 (fun g2 => Or.inl ⟨_, rfl, ?_⟩) (fun g2 => Or.inr ⟨_, rfl, rfl, hT (by omega)⟩))
  have k2 := gTri_0.mp g2
  obtain ⟨q1, q2, q3⟩ := trL_get 225 t.toInt.toNat (show t.toInt.toNat < (trL T 225).length by omega)
  obtain ⟨z, ez, x1, x2, x3⟩ := tr_pts hB.2.1 q1
  have em : mN T t.toInt.toNat = m3 ((trL T 225).getD t.toInt.toNat 0 / 15) ((trL T 225).getD t.toInt.toNat 0 % 15) z := by unfold mN mk3; rw [ez, Int.toNat_natCast]
  have etk : tkT T t.toInt.toNat = sTake T ((trL T 225).getD t.toInt.toNat 0 / 15) ((trL T 225).getD t.toInt.toNat 0 % 15) z := by unfold tkT; rw [ez, Int.toNat_natCast]
  refine xald 6 ⟨u127, _, rfl⟩ rfl rfl ?_
  refine xcallC 9 (o := 0) [] [] hH ⟨u127, _, rfl⟩ rfl rfl (by decide) rfl (by decide) rfl ⟨rfl, rfl, rfl, rfl⟩ rfl (k_cmS hH hS (fun hp6 hH6 F6 S6 => ⟨_, rfl, ?_⟩))
  refine xald 10 ⟨u127, _, rfl⟩ rfl rfl ?_
  refine xgetD 13 (3) hH6 ⟨u127, _, rfl⟩ rfl (by decide) (by decide) rfl rfl (by decide) ?_
  refine xald 14 ⟨u127, _, rfl⟩ rfl rfl ?_
  refine xgetD 17 (3) hH6 ⟨u127, _, rfl⟩ rfl (by decide) (by decide) rfl rfl (by decide) ?_
  refine xild 18 ⟨u127, _, rfl⟩ rfl rfl ?_
  refine xcallC 21 (o := 3) [.int _] [.ref 3] hH6 ⟨u127, _, rfl⟩ rfl rfl (by decide) rfl (by decide) rfl ⟨rfl, rfl, rfl, rfl⟩ rfl (k_setL hH6 S6.2.1 (t := t.toInt.toNat) (by omega) (by show t.toInt.toNat < (trL T 225).length; omega) (fun z18 h18 => ⟨_, rfl, ?_⟩))
  have h18 : z18.toInt = ((mN T t.toInt.toNat : Nat) : Int) := h18
  refine xcallC 24 (o := 3) [.int _] [] hH6 ⟨u127, _, rfl⟩ rfl rfl (by decide) rfl (by decide) rfl ⟨rfl, rfl, rfl, rfl⟩ rfl (k_bdrop (o := 3) (Or.inl rfl) hH6 S6.1 (by rw [h18, em]) x1 x2 ez (fun hp21 hH21 F21 B21 => ⟨_, rfl, ?_⟩))
  have B21 : bdOk hp21 3 V (tkT T t.toInt.toNat) := by rw [etk]; exact B21
  refine xald 25 ⟨u127, _, rfl⟩ rfl rfl ?_
  refine xcallC 28 (o := 0) [] [] hH21 ⟨u127, _, rfl⟩ rfl rfl (by decide) rfl (by decide) rfl ⟨rfl, rfl, rfl, rfl⟩ rfl (k_stS hH21 (ty := ty) B21 (fun i hi => (bFx_n F21 (by simp)).trans (S6.2.2.2.1 i hi)) (hyC_fr S6.2.2.2.2 (fun c k c1 c2 => F21 c k (by simp; omega))) (fun hp25 hH25 F25 S25 => ⟨_, rfl, ?_⟩))
  have d25 : rN hp25 3 1 = (((trL (tkT T t.toInt.toNat) 225).length : Nat) : Int) := S25.2.1.1
  refine xald 29 ⟨u127, _, rfl⟩ rfl rfl ?_
  refine xgetD 32 (3) hH25 ⟨u127, _, rfl⟩ rfl (by decide) (by decide) rfl rfl (by decide) ?_
  refine xgetC 35 hH25 ⟨u127, _, rfl⟩ rfl (by decide) (by decide) rfl rfl (by decide) (fun z32 h32 => ?_)
  exact xret ⟨u127, _, rfl⟩ rfl (hR _ hp25 hH25 ((cF_hy F6).trans ((cF_x F21 (by simp)).trans (cF_x F25 (by simp)))) g2 S25 (by omega))
end
