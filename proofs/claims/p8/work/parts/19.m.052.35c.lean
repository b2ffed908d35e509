/-! ===== four triples, each point of them on two (pure) ===== -/
abbrev onL (T : sT) (t u : Nat) : Prop := (mN T t).testBit u = true
theorem on_pts {V : Nat} {T : sT} (hT : sOk V T) {t : Nat} (ht : t < (trL T 225).length) : ∃ x y z : Nat, x < y ∧ y < z ∧ z < V ∧ mN T t = m3 x y z ∧ T x y = (z : Int) ∧ ∀ u, onL T t u ↔ (u = x ∨ u = y ∨ u = z) := by
  obtain ⟨g1, g2, g3⟩ := trL_get 225 t ht
  obtain ⟨z, ez, h1, h2, h3⟩ := tr_pts hT g1
  have e : mN T t = m3 ((trL T 225).getD t 0 / 15) ((trL T 225).getD t 0 % 15) z := by unfold mN mk3; rw [ez, Int.toNat_natCast]
  refine ⟨_, _, z, h1, h2, h3, e, ez, fun u => ?_⟩
  unfold onL
  rw [e, m3_test]
  exact decide_eq_true_iff
theorem on_T {V : Nat} {T : sT} (hT : sOk V T) {t u v : Nat} (ht : t < (trL T 225).length) (hu : onL T t u) (hv : onL T t v) (h : ¬ u = v) : ¬ T u v = -1 ∧ cd T u v = (trL T 225).getD t 0 := by
  obtain ⟨g1, g2, g3⟩ := trL_get 225 t ht
  obtain ⟨z, ez, h1, h2, h3⟩ := tr_pts hT g1
  unfold onL mN mk3 at hu hv
  rw [ez, Int.toNat_natCast, m3_test] at hu hv
  have hu := of_decide_eq_true hu
  have hv := of_decide_eq_true hv
  have := cd_pr hT g1 (u := u) (v := v) (by rw [ez, Int.toNat_natCast]; exact ⟨h, hu, hv⟩)
  exact this.2
/-- two points are on one triple at most -/
theorem on_1 {V : Nat} {T : sT} (hT : sOk V T) {s t u v : Nat} (hs : s < (trL T 225).length) (ht : t < (trL T 225).length) (h : ¬ u = v) (a : onL T s u) (b : onL T s v) (c : onL T t u) (d : onL T t v) : s = t :=
  gd_inj hs ht ((on_T hT hs a b h).2.symm.trans (on_T hT ht c d h).2)
/-- three points of a triple: two lead to the third -/
theorem on_3 {V : Nat} {T : sT} (hT : sOk V T) {t u v w : Nat} (ht : t < (trL T 225).length) (a : onL T t u) (b : onL T t v) (c : onL T t w) (h1 : ¬ u = v) (h2 : ¬ u = w) (h3 : ¬ v = w) : T u v = (w : Int) := by
  obtain ⟨x, y, z, l1, l2, l3, e1, e2, e3⟩ := on_pts hT ht
  have a := (e3 u).mp a
  have b := (e3 v).mp b
  have c := (e3 w).mp c
  exact T_perm hT (fun i => by omega) (by omega) (by omega) (by omega) h1 h3 h2 e2
/-- four triples of which each leaves the other three -/
abbrev X4 (T : sT) (i j k l : Nat) : Prop := (i < (trL T 225).length ∧ j < (trL T 225).length ∧ k < (trL T 225).length ∧ l < (trL T 225).length) ∧ (¬ i = j ∧ ¬ i = k ∧ ¬ i = l ∧ ¬ j = k ∧ ¬ j = l ∧ ¬ k = l) ∧ mN T i ^^^ mN T j ^^^ mN T k = mN T l
theorem xr_12 {a b c d : Nat} (h : a ^^^ b ^^^ c = d) : b ^^^ a ^^^ c = d := by rw [Nat.xor_comm b a]; exact h
theorem xr_23 {a b c d : Nat} (h : a ^^^ b ^^^ c = d) : a ^^^ c ^^^ b = d := by rw [Nat.xor_assoc, Nat.xor_comm c b, ← Nat.xor_assoc]; exact h
theorem xr_34 {a b c d : Nat} (h : a ^^^ b ^^^ c = d) : a ^^^ b ^^^ d = c := by rw [← h, ← Nat.xor_assoc, Nat.xor_self, Nat.zero_xor]
theorem X4_sym (T : sT) : sym4 (X4 T) :=
  ⟨fun i j k l h => ⟨by have := h.1; omega, by have := h.2.1; omega, xr_12 h.2.2⟩, fun i j k l h => ⟨by have := h.1; omega, by have := h.2.1; omega, xr_23 h.2.2⟩, fun i j k l h => ⟨by have := h.1; omega, by have := h.2.1; omega, xr_34 h.2.2⟩, fun i j k l h => h.2.1⟩
theorem X4_par {T : sT} {i j k l : Nat} (h : X4 T i j k l) (u : Nat) : (((mN T i).testBit u ^^ (mN T j).testBit u) ^^ (mN T k).testBit u) = (mN T l).testBit u := by
  rw [← h.2.2, Nat.testBit_xor, Nat.testBit_xor]
/-- a point of one is on another -/
theorem X4_or {T : sT} {i j k l : Nat} (h : X4 T i j k l) {u : Nat} (a : onL T i u) : onL T j u ∨ onL T k u ∨ onL T l u := by
  have p := X4_par h u
  unfold onL at a ⊢
  rw [a] at p
  cases hj : (mN T j).testBit u
  · cases hk : (mN T k).testBit u
    · rw [hj, hk] at p
      exact Or.inr (Or.inr p.symm)
    · exact Or.inr (Or.inl rfl)
  · exact Or.inl rfl
theorem X4_meet {V : Nat} {T : sT} (hT : sOk V T) {i j k l : Nat} (h : X4 T i j k l) : ∃ p, onL T i p ∧ onL T j p := by
  obtain ⟨⟨bi, bj, bk, bl⟩, ⟨d1, d2, d3, d4, d5, d6⟩, -⟩ := id h
  obtain ⟨x, y, z, l1, l2, l3, -, -, e3⟩ := on_pts hT bi
  have ox := (e3 x).mpr (Or.inl rfl)
  have oy := (e3 y).mpr (Or.inr (Or.inl rfl))
  have oz := (e3 z).mpr (Or.inr (Or.inr rfl))
  have q : ∀ {t u v : Nat}, t < (trL T 225).length → ¬ i = t → onL T i u → onL T i v → ¬ u = v → onL T t u → onL T t v → False := fun ht hn a b hne c d => hn (on_1 hT bi ht hne a b c d)
  rcases X4_or h ox with a | a | a
  · exact ⟨x, ox, a⟩
  · rcases X4_or h oy with b | b | b
    · exact ⟨y, oy, b⟩
    · exact (q bk d2 ox oy (by omega) a b).elim
    · rcases X4_or h oz with c | c | c
      · exact ⟨z, oz, c⟩
      · exact (q bk d2 ox oz (by omega) a c).elim
      · exact (q bl d3 oy oz (by omega) b c).elim
  · rcases X4_or h oy with b | b | b
    · exact ⟨y, oy, b⟩
    · rcases X4_or h oz with c | c | c
      · exact ⟨z, oz, c⟩
      · exact (q bk d2 oy oz (by omega) b c).elim
      · exact (q bl d3 ox oz (by omega) a c).elim
    · exact (q bl d3 ox oy (by omega) a b).elim
theorem X4_no3 {V : Nat} {T : sT} (hT : sOk V T) {i j k l : Nat} (h : X4 T i j k l) {p : Nat} (a : onL T i p) (b : onL T j p) (c : onL T k p) : False := by
  obtain ⟨⟨bi, bj, bk, bl⟩, ⟨d1, d2, d3, d4, d5, d6⟩, -⟩ := id h
  have d : onL T l p := by
    have q := X4_par h p
    unfold onL at a b c ⊢
    rw [a, b, c] at q
    exact q.symm
  obtain ⟨x, y, z, l1, l2, l3, -, -, e3⟩ := on_pts hT bi
  have hu : ∃ u, onL T i u ∧ ¬ p = u := by
    by_cases e : p = x
    · exact ⟨y, (e3 y).mpr (Or.inr (Or.inl rfl)), by omega⟩
    · exact ⟨x, (e3 x).mpr (Or.inl rfl), e⟩
  obtain ⟨u, ou, hne⟩ := hu
  rcases X4_or h ou with g | g | g
  · exact d1 (on_1 hT bi bj hne a ou b g)
  · exact d2 (on_1 hT bi bk hne a ou c g)
  · exact d3 (on_1 hT bi bl hne a ou d g)
/-- the six points of a quadrilateral -/
theorem X4_pts {V : Nat} {T : sT} (hT : sOk V T) {i j k l : Nat} (h : X4 T i j k l) : ∃ p a b c d e : Nat, (onL T i p ∧ onL T i a ∧ onL T i b) ∧ (onL T j p ∧ onL T j c ∧ onL T j d) ∧ (onL T k a ∧ onL T k c ∧ onL T k e) ∧ (onL T l b ∧ onL T l d ∧ onL T l e) ∧ T p a = (b : Int) ∧ T p c = (d : Int) ∧ T a c = (e : Int) ∧ T b d = (e : Int) ∧ ¬ b = c := by
  obtain ⟨s1, s2, s3, s4⟩ := X4_sym T
  have h1 := h
  have ikjl := s2 _ _ _ _ h
  have iljk : X4 T i l j k := s2 _ _ _ _ (s3 _ _ _ _ h)
  have jkil : X4 T j k i l := s2 _ _ _ _ (s1 _ _ _ _ h)
  have jlik : X4 T j l i k := s2 _ _ _ _ (s3 _ _ _ _ (s1 _ _ _ _ h))
  have klij : X4 T k l i j := s2 _ _ _ _ (s3 _ _ _ _ (s1 _ _ _ _ ikjl))
  have ijlk := s3 _ _ _ _ h
  obtain ⟨⟨bi, bj, bk, bl⟩, ⟨d1, d2, d3, d4, d5, d6⟩, -⟩ := id h
  obtain ⟨p, p1, p2⟩ := X4_meet hT h
  obtain ⟨a, a1, a2⟩ := X4_meet hT ikjl
  obtain ⟨b, b1, b2⟩ := X4_meet hT iljk
  obtain ⟨c, c1, c2⟩ := X4_meet hT jkil
  obtain ⟨d, e1, e2⟩ := X4_meet hT jlik
  obtain ⟨e, f1, f2⟩ := X4_meet hT klij
  have npa : ¬ p = a := fun z => by subst z; exact X4_no3 hT h p1 p2 a2
  have npb : ¬ p = b := fun z => by subst z; exact X4_no3 hT ijlk p1 p2 b2
  have nab : ¬ a = b := fun z => by subst z; exact X4_no3 hT (s3 _ _ _ _ ikjl) a1 a2 b2
  have npc : ¬ p = c := fun z => by subst z; exact X4_no3 hT h p1 p2 c2
  have npd : ¬ p = d := fun z => by subst z; exact X4_no3 hT ijlk p1 p2 e2
  have ncd : ¬ c = d := fun z => by subst z; exact X4_no3 hT (s3 _ _ _ _ jkil) c1 c2 e2
  have nac : ¬ a = c := fun z => by subst z; exact X4_no3 hT ikjl a1 a2 c1
  have nae : ¬ a = e := fun z => by subst z; exact X4_no3 hT (s3 _ _ _ _ ikjl) a1 a2 f2
  have nce : ¬ c = e := fun z => by subst z; exact X4_no3 hT (s3 _ _ _ _ jkil) c1 c2 f2
  have nbd : ¬ b = d := fun z => by subst z; exact X4_no3 hT iljk b1 b2 e1
  have nbe : ¬ b = e := fun z => by subst z; exact X4_no3 hT (s3 _ _ _ _ iljk) b1 b2 f1
  have nde : ¬ d = e := fun z => by subst z; exact X4_no3 hT (s3 _ _ _ _ jlik) e1 e2 f1
  have nbc : ¬ b = c := fun z => by subst z; exact X4_no3 hT iljk b1 b2 c1
  exact ⟨p, a, b, c, d, e, ⟨p1, a1, b1⟩, ⟨p2, c1, e1⟩, ⟨a2, c2, f1⟩, ⟨b2, e2, f2⟩, on_3 hT bi p1 a1 b1 npa npb nab, on_3 hT bj p2 c1 e1 npc npd ncd, on_3 hT bk a2 c2 f1 nac nae nce, on_3 hT bl b2 e2 f2 nbd nbe nde, nbc⟩
