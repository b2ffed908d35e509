/-! ##### 19.m.080.38c ##### -/
section
/-! ===== how many quadrilaterals behind triples taken and put (pure) ===== -/
noncomputable abbrev nQ (T : sT) : Nat := (fL (qdB T) 42875).length
/-- as Pa_sum, with what is said of the four triples -/
theorem Pa_sumG {V : Nat} {T : sT} (hT : sOk V T) (g : Nat → Nat → Nat → Nat → Bool) : s3 15 (fun p a c => iv (Pa T p a c ∧ g (li T p a) (li T p c) (li T a c) (li T (T p a).toNat (T p c).toNat) = true)) = s4 35 (fun i j k l => iv (X4 T i j k l ∧ g i j k l = true)) := by
  have hV := hT.2.1
  have l35 := trL_35 hT 225
  have a1 : ∀ p a c, iv (Pa T p a c ∧ g (li T p a) (li T p c) (li T a c) (li T (T p a).toNat (T p c).toNat) = true) = s4 35 (fun i j k l => iv ((Pa T p a c ∧ g i j k l = true) ∧ i = li T p a ∧ j = li T p c ∧ k = li T a c ∧ l = li T (T p a).toNat (T p c).toNat)) := by
    intro p a c
    by_cases h : Pa T p a c
    · obtain ⟨⟨x1, x2, x3, x4⟩, -⟩ := Pa_X4 hT h
      refine (s4_one (i0 := li T p a) (j0 := li T p c) (k0 := li T a c) (l0 := li T (T p a).toNat (T p c).toNat) (by omega) (by omega) (by omega) (by omega) (iv_eq ⟨fun z => z.1, fun z => ⟨z, rfl, rfl, rfl, rfl⟩⟩) (fun i j k l hn => iv_f (fun z => hn z.2))).symm
    · rw [iv_f (fun z => h z.1)]
      unfold s4
      exact (sm_none (fun i _ => s3_none (fun j k l _ _ _ => iv_f (fun z => h z.1.1)))).symm
  have a2 : ∀ i j k l, s3 15 (fun p a c => iv ((Pa T p a c ∧ g i j k l = true) ∧ i = li T p a ∧ j = li T p c ∧ k = li T a c ∧ l = li T (T p a).toNat (T p c).toNat)) = iv (X4 T i j k l ∧ g i j k l = true) := by
    intro i j k l
    by_cases h : X4 T i j k l
    · obtain ⟨p, a, b, c, d, e, ⟨p1, a1, b1⟩, ⟨p2, c1, d1⟩, ⟨a2, c2, e1⟩, ⟨b2, d2, e2⟩, t1, t2, t3, t4, nbc⟩ := X4_pts hT h
      obtain ⟨⟨bi, bj, bk, bl⟩, ⟨n12, n13, n14, n23, n24, n34⟩, -⟩ := id h
      have hP : Pa T p a c := ⟨by omega, by omega, by omega, by omega, by rw [t1, t2, Int.toNat_natCast, Int.toNat_natCast, t4, t3]⟩
      obtain ⟨b', eb, eb2, lp, la, -, q1, q2, q3, ci, -, i1, i2, i3⟩ := li_s hT hP.1
      obtain ⟨d', ed, ed2, -, lc, -, r1, r2, r3, cj, -, j1, j2, j3⟩ := li_s hT hP.2.1
      obtain ⟨e', ee, ee2, -, -, -, s1, s2, s3', ck, -, k1, k2, k3⟩ := li_s hT hP.2.2.1
      have hbd : ¬ T b d = -1 := by omega
      obtain ⟨f', ef, ef2, -, -, -, v1, v2, v3, cl, -, m1, m2, m3'⟩ := li_s hT hbd
      have ei : i = li T p a := on_1 hT bi ci q1 p1 a1 i1 i2
      have ej : j = li T p c := on_1 hT bj cj r1 p2 c1 j1 j2
      have ek : k = li T a c := on_1 hT bk ck s1 a2 c2 k1 k2
      have el : l = li T (T p a).toNat (T p c).toNat := by
        rw [t1, t2, Int.toNat_natCast, Int.toNat_natCast]
        exact on_1 hT bl cl v1 b2 d2 m1 m2
      refine s3_one (i0 := p) (j0 := a) (k0 := c) (by omega) (by omega) (by omega) (iv_eq ⟨fun z => ⟨h, z.1.2⟩, fun z => ⟨⟨hP, z.2⟩, ei, ej, ek, el⟩⟩) (fun p' a' c' _ _ _ hn => iv_f (fun z => hn ?_))
      obtain ⟨⟨w0, -⟩, w1, w2, w3, -⟩ := z
      obtain ⟨-, -, -, -, -, -, -, -, -, -, -, y1, y2, -⟩ := li_s hT w0.1
      obtain ⟨-, -, -, -, -, -, -, -, -, -, -, y3, y4, -⟩ := li_s hT w0.2.1
      obtain ⟨-, -, -, -, -, -, -, -, -, -, -, y5, y6, -⟩ := li_s hT w0.2.2.1
      rw [← w1] at y1 y2
      rw [← w2] at y3 y4
      rw [← w3] at y5 y6
      refine ⟨?_, ?_, ?_⟩
      · by_cases z : p' = p
        · exact z
        · exact absurd (on_1 hT bi bj z y1 p1 y3 p2) n12
      · by_cases z : a' = a
        · exact z
        · exact absurd (on_1 hT bi bk z y2 a1 y5 a2) n13
      · by_cases z : c' = c
        · exact z
        · exact absurd (on_1 hT bj bk z y4 c1 y6 c2) n23
    · rw [iv_f (fun z => h z.1)]
      refine s3_none (fun p a c _ _ _ => iv_f (fun z => h ?_))
      obtain ⟨⟨w0, -⟩, rfl, rfl, rfl, rfl⟩ := z
      exact Pa_X4 hT w0
  rw [s3_ext (fun p a c _ _ _ => a1 p a c), s3_s4]
  exact s4_ext (fun i j k l _ _ _ _ => a2 i j k l)
theorem nQ_24 {V : Nat} {T : sT} (hT : sOk V T) : 24 * nQ T = s3 15 (fun p a c => iv (Pa T p a c)) := by
  have a := qd_24 hT (fun _ => true)
  have c : s3 15 (fun p a c => iv (Pa T p a c ∧ true = true ∧ true = true ∧ true = true ∧ true = true)) = s3 15 (fun p a c => iv (Pa T p a c)) := s3_ext (fun p a c _ _ _ => iv_eq ⟨fun z => z.1, fun z => ⟨z, rfl, rfl, rfl, rfl⟩⟩)
  have d : sm (fun n => iv (qdB T n = true ∧ (true && (true && (true && true))) = true)) 42875 = nQ T := by
    show _ = (fL (qdB T) 42875).length
    rw [fL_sm]
    exact sm_ext 42875 (fun n _ => iv_eq ⟨fun z => z.1, fun z => ⟨z, rfl⟩⟩)
  rw [c, d] at a
  exact a
/-- the triple of a covered pair, among those numbered in a list -/
theorem in2_li {V : Nat} {T : sT} (hT : sOk V T) {t u v : Nat} (ht : t < (trL T 225).length) (h : in2 (mN T t) u v) : ¬ T u v = -1 ∧ li T u v = t := by
  have g := on_T hT ht h.2.1 h.2.2 h.1
  obtain ⟨w, -, -, -, -, -, d1, -, -, l1, -, o1, o2, -⟩ := li_s hT g.1
  exact ⟨g.1, on_1 hT l1 ht d1 o1 o2 h.2.1 h.2.2⟩
theorem uTs_D {V : Nat} {T : sT} (hT : sOk V T) {D : List Nat} (hD : ∀ t, t ∈ D → t < (trL T 225).length) (u v : Nat) : (¬ T u v = -1 ∧ ¬ li T u v ∈ D → uTs T (D.map (mN T)) u v = T u v) ∧ (T u v = -1 ∨ li T u v ∈ D → uTs T (D.map (mN T)) u v = -1) := by
  constructor
  · rintro ⟨h1, h2⟩
    refine uTs_out (fun m hm g => ?_)
    obtain ⟨t, t1, rfl⟩ := List.mem_map.mp hm
    have := (in2_li hT (hD t t1) g).2
    rw [this] at h2
    exact h2 t1
  · intro h
    by_cases e : T u v = -1
    · exact uTs_none e
    · rcases h with h | h
      · exact absurd h e
      · obtain ⟨w, -, -, -, -, -, d1, -, -, l1, -, o1, o2, -⟩ := li_s hT e
        exact uTs_in (m := mN T (li T u v)) (List.mem_map.mpr ⟨_, h, rfl⟩) ⟨d1, o1, o2⟩
/-- the quadrilaterals that stay when triples are taken -/
theorem nQ_take {V : Nat} {T : sT} (hT : sOk V T) {D : List Nat} (hD : ∀ t, t ∈ D → t < (trL T 225).length) (hT0 : sOk V (uTs T (D.map (mN T)))) (g : Nat → Bool) (hg : ∀ t, g t = true ↔ ¬ t ∈ D) : nQ (uTs T (D.map (mN T))) = sm (fun n => iv (qdB T n = true ∧ (g (n / 1225) && (g (n / 35 % 35) && (g (n % 35) && g (ql T n)))) = true)) 42875 := by
  have a := nQ_24 hT0
  have b : 24 * sm (fun n => iv (qdB T n = true ∧ (g (n / 1225) && (g (n / 35 % 35) && (g (n % 35) && g (ql T n)))) = true)) 42875 = _ := qd_24 hT g
  have c : s3 15 (fun p a c => iv (Pa (uTs T (D.map (mN T))) p a c)) = s3 15 (fun p a c => iv (Pa T p a c ∧ g (li T p a) = true ∧ g (li T p c) = true ∧ g (li T a c) = true ∧ g (li T (T p a).toNat (T p c).toNat) = true)) := s3_ext (fun p a c _ _ _ => iv_eq (by
    have q := fun u v => uTs_D hT hD u v
    generalize uTs T (D.map (mN T)) = S at q
    have w : ∀ u v, (S u v = T u v ∧ ¬ T u v = -1 ∧ g (li T u v) = true) ∨ (S u v = -1 ∧ (T u v = -1 ∨ ¬ g (li T u v) = true)) := fun u v => by
      by_cases e : T u v = -1
      · exact Or.inr ⟨(q u v).2 (Or.inl e), Or.inl e⟩
      · by_cases k : li T u v ∈ D
        · exact Or.inr ⟨(q u v).2 (Or.inr k), Or.inr (fun z => (hg _).mp z k)⟩
        · exact Or.inl ⟨(q u v).1 ⟨e, k⟩, e, (hg _).mpr k⟩
    constructor
    · rintro ⟨h1, h2, h3, h4, h5⟩
      rcases w p a with ⟨w1, w2, w3⟩ | ⟨w1, -⟩
      · rcases w p c with ⟨x1, x2, x3⟩ | ⟨x1, -⟩
        · rcases w a c with ⟨y1, y2, y3⟩ | ⟨y1, -⟩
          · rw [w1, x1, y1] at h5
            rcases w (T p a).toNat (T p c).toNat with ⟨z1, z2, z3⟩ | ⟨z1, -⟩
            · exact ⟨⟨w2, x2, y2, by rw [← w1]; exact h4, by rw [← z1]; exact h5⟩, w3, x3, y3, z3⟩
            · rw [z1] at h5
              exact absurd h5.symm y2
          · exact absurd y1 h3
        · exact absurd x1 h2
      · exact absurd w1 h1
    · rintro ⟨⟨h1, h2, h3, h4, h5⟩, g1, g2, g3, g4⟩
      have h6 : ¬ T (T p a).toNat (T p c).toNat = -1 := by rw [h5]; exact h3
      have k : ∀ u v, ¬ T u v = -1 → g (li T u v) = true → S u v = T u v := fun u v e1 e2 => by
        rcases w u v with z | z
        · exact z.1
        · rcases z.2 with z2 | z2
          · exact absurd z2 e1
          · exact absurd e2 z2
      have e1 := k p a h1 g1
      have e2 := k p c h2 g2
      have e3 := k a c h3 g3
      have e4 := k _ _ h6 g4
      refine ⟨by rw [e1]; exact h1, by rw [e2]; exact h2, by rw [e3]; exact h3, by rw [e1]; exact h4, ?_⟩
      rw [e1, e2, e3, e4]
      exact h5))
  rw [c] at a
  have d := a.trans b.symm
  omega
/-- those that a triple makes: beside two of its points, counted from the third -/
noncomputable def cw (V : Nat) (T : sT) (x y z : Nat) : Nat := sm (fun a => iv (¬ T x a = -1 ∧ ¬ a = y ∧ ¬ a = z ∧ ¬ T y a = -1 ∧ T y a = T z (T x a).toNat)) V
theorem b9d : ∀ xj xk xl yj yk yl zj zk zl : Bool, ((xj || xk || xl) && ((yj || yk || yl) && ((zj || zk || zl) && (!(xj && xk) && (!(xj && xl) && (!(xk && xl) && (!(yj && yk) && (!(yj && yl) && (!(yk && yl) && (!(zj && zk) && (!(zj && zl) && (!(zk && zl) && (!(xj && yj) && (!(xj && zj) && (!(yj && zj) && (!(xk && yk) && (!(xk && zk) && (!(yk && zk) && (!(xl && yl) && (!(xl && zl) && (!(yl && zl)))))))))))))))))))))) = true → (xj && yk && zl).toNat + (xj && yl && zk).toNat + (xk && yj && zl).toNat + (xl && yj && zk).toNat + (xk && yl && zj).toNat + (xl && yk && zj).toNat = 1 := by decide +kernel
theorem b9 : ∀ xj xk xl yj yk yl zj zk zl : Bool, (xj || xk || xl) = true → (yj || yk || yl) = true → (zj || zk || zl) = true → (xj && xk) = false → (xj && xl) = false → (xk && xl) = false → (yj && yk) = false → (yj && yl) = false → (yk && yl) = false → (zj && zk) = false → (zj && zl) = false → (zk && zl) = false → (xj && yj) = false → (xj && zj) = false → (yj && zj) = false → (xk && yk) = false → (xk && zk) = false → (yk && zk) = false → (xl && yl) = false → (xl && zl) = false → (yl && zl) = false → (xj && yk && zl).toNat + (xj && yl && zk).toNat + (xk && yj && zl).toNat + (xl && yj && zk).toNat + (xk && yl && zj).toNat + (xl && yk && zj).toNat = 1 := by
  intro xj xk xl yj yk yl zj zk zl h0 h1 h2 h3 h4 h5 h6 h7 h8 h9 h10 h11 h12 h13 h14 h15 h16 h17 h18 h19 h20
  refine b9d xj xk xl yj yk yl zj zk zl ?_
  rw [h0, h1, h2, h3, h4, h5, h6, h7, h8, h9, h10, h11, h12, h13, h14, h15, h16, h17, h18, h19, h20]
  rfl
theorem iv_b {P : Prop} [Decidable P] {b : Bool} : iv (P ∧ b = true) = iv P * b.toNat := by
  cases b
  · rw [iv_f (fun z => by cases z.2)]
    rfl
  · rw [iv_eq (q := P) ⟨fun z => z.1, fun z => ⟨z, rfl⟩⟩]
    exact (Nat.mul_one _).symm
/-- quadrilaterals with one triple, by its three points -/
theorem X4_one {V : Nat} {T : sT} (hT : sOk V T) {t x y z : Nat} (ht : t < (trL T 225).length) (hx : onL T t x) (hy : onL T t y) (hz : onL T t z) (hxy : ¬ x = y) (hyz : ¬ y = z) (hxz : ¬ x = z) : s4 35 (fun i j k l => iv (X4 T i j k l ∧ i = t)) = 6 * s4 35 (fun i j k l => iv ((X4 T i j k l ∧ i = t) ∧ ((mN T j).testBit x && (mN T k).testBit y && (mN T l).testBit z) = true)) := by
  obtain ⟨s1, s2, s3', s4'⟩ := X4_sym T
  have e : s4 35 (fun i j k l => iv (X4 T i j k l ∧ i = t)) = s4 35 (fun i j k l => iv ((X4 T i j k l ∧ i = t) ∧ ((mN T j).testBit x && (mN T k).testBit y && (mN T l).testBit z) = true) + iv ((X4 T i j l k ∧ i = t) ∧ ((mN T j).testBit x && (mN T l).testBit y && (mN T k).testBit z) = true) + iv ((X4 T i k j l ∧ i = t) ∧ ((mN T k).testBit x && (mN T j).testBit y && (mN T l).testBit z) = true) + iv ((X4 T i l j k ∧ i = t) ∧ ((mN T l).testBit x && (mN T j).testBit y && (mN T k).testBit z) = true) + iv ((X4 T i k l j ∧ i = t) ∧ ((mN T k).testBit x && (mN T l).testBit y && (mN T j).testBit z) = true) + iv ((X4 T i l k j ∧ i = t) ∧ ((mN T l).testBit x && (mN T k).testBit y && (mN T j).testBit z) = true)) := s4_ext (fun i j k l _ _ _ _ => by
    by_cases h : X4 T i j k l ∧ i = t
    · obtain ⟨h, rfl⟩ := h
      have a2 := s3' _ _ _ _ h
      have a3 := s2 _ _ _ _ h
      have a4 := s2 _ _ _ _ a2
      have a5 := s3' _ _ _ _ a3
      have a6 := s3' _ _ _ _ a4
      obtain ⟨⟨bi, bj, bk, bl⟩, ⟨n12, n13, n14, n23, n24, n34⟩, -⟩ := id h
      rw [iv_b, iv_b, iv_b, iv_b, iv_b, iv_b, iv_t ⟨h, rfl⟩, iv_t ⟨a2, rfl⟩, iv_t ⟨a3, rfl⟩, iv_t ⟨a4, rfl⟩, iv_t ⟨a5, rfl⟩, iv_t ⟨a6, rfl⟩]
      simp only [Nat.one_mul]
      have o : ∀ u, onL T i u → ((mN T j).testBit u || (mN T k).testBit u || (mN T l).testBit u) = true := fun u hu => by
        rcases X4_or h hu with g | g | g
        · unfold onL at g; rw [g]; rfl
        · unfold onL at g; rw [g]; cases (mN T j).testBit u <;> rfl
        · unfold onL at g; rw [g]; cases (mN T j).testBit u <;> cases (mN T k).testBit u <;> rfl
      have an : ∀ a b : Bool, (a = true → b = true → False) → (a && b) = false := fun a b g => by
        cases a
        · rfl
        · cases b
          · rfl
          · exact (g rfl rfl).elim
      have dj : ∀ u v, onL T i u → onL T i v → ¬ u = v → ∀ s, s < (trL T 225).length → ¬ i = s → ((mN T s).testBit u && (mN T s).testBit v) = false := fun u v hu hv hne s hs hns => an _ _ (fun g1 g2 => hns (on_1 hT bi hs hne hu hv g1 g2))
      have dp : ∀ u, onL T i u → ((mN T j).testBit u && (mN T k).testBit u) = false ∧ ((mN T j).testBit u && (mN T l).testBit u) = false ∧ ((mN T k).testBit u && (mN T l).testBit u) = false := fun u hu => ⟨an _ _ (fun g1 g2 => X4_no3 hT h hu g1 g2), an _ _ (fun g1 g2 => X4_no3 hT a2 hu g1 g2), an _ _ (fun g1 g2 => X4_no3 hT a5 hu g1 g2)⟩
      exact (b9 _ _ _ _ _ _ _ _ _ (o x hx) (o y hy) (o z hz) (dp x hx).1 (dp x hx).2.1 (dp x hx).2.2 (dp y hy).1 (dp y hy).2.1 (dp y hy).2.2 (dp z hz).1 (dp z hz).2.1 (dp z hz).2.2 (dj x y hx hy hxy j bj n12) (dj x z hx hz hxz j bj n12) (dj y z hy hz hyz j bj n12) (dj x y hx hy hxy k bk n13) (dj x z hx hz hxz k bk n13) (dj y z hy hz hyz k bk n13) (dj x y hx hy hxy l bl n14) (dj x z hx hz hxz l bl n14) (dj y z hy hz hyz l bl n14)).symm
    · rw [iv_f h, iv_f (fun g => h g.1), iv_f (fun g => h ⟨s3' _ _ _ _ g.1.1, g.1.2⟩), iv_f (fun g => h ⟨s2 _ _ _ _ g.1.1, g.1.2⟩), iv_f (fun g => h ⟨s3' _ _ _ _ (s2 _ _ _ _ g.1.1), g.1.2⟩), iv_f (fun g => h ⟨s2 _ _ _ _ (s3' _ _ _ _ g.1.1), g.1.2⟩), iv_f (fun g => h ⟨s3' _ _ _ _ (s2 _ _ _ _ (s3' _ _ _ _ g.1.1)), g.1.2⟩)])
  have p1 : s4 35 (fun i j k l => iv ((X4 T i j l k ∧ i = t) ∧ ((mN T j).testBit x && (mN T l).testBit y && (mN T k).testBit z) = true)) = s4 35 (fun i j k l => iv ((X4 T i j k l ∧ i = t) ∧ ((mN T j).testBit x && (mN T k).testBit y && (mN T l).testBit z) = true)) := s4_34 (fun i j k l => iv ((X4 T i j k l ∧ i = t) ∧ ((mN T j).testBit x && (mN T k).testBit y && (mN T l).testBit z) = true))
  have p2 : s4 35 (fun i j k l => iv ((X4 T i k j l ∧ i = t) ∧ ((mN T k).testBit x && (mN T j).testBit y && (mN T l).testBit z) = true)) = s4 35 (fun i j k l => iv ((X4 T i j k l ∧ i = t) ∧ ((mN T j).testBit x && (mN T k).testBit y && (mN T l).testBit z) = true)) := s4_23 (fun i j k l => iv ((X4 T i j k l ∧ i = t) ∧ ((mN T j).testBit x && (mN T k).testBit y && (mN T l).testBit z) = true))
  have p3 : s4 35 (fun i j k l => iv ((X4 T i l j k ∧ i = t) ∧ ((mN T l).testBit x && (mN T j).testBit y && (mN T k).testBit z) = true)) = s4 35 (fun i j k l => iv ((X4 T i j k l ∧ i = t) ∧ ((mN T j).testBit x && (mN T k).testBit y && (mN T l).testBit z) = true)) :=
    (s4_34 (fun i j k l => iv ((X4 T i k j l ∧ i = t) ∧ ((mN T k).testBit x && (mN T j).testBit y && (mN T l).testBit z) = true))).trans p2
  have p4 : s4 35 (fun i j k l => iv ((X4 T i k l j ∧ i = t) ∧ ((mN T k).testBit x && (mN T l).testBit y && (mN T j).testBit z) = true)) = s4 35 (fun i j k l => iv ((X4 T i j k l ∧ i = t) ∧ ((mN T j).testBit x && (mN T k).testBit y && (mN T l).testBit z) = true)) :=
    (s4_23 (fun i j k l => iv ((X4 T i j l k ∧ i = t) ∧ ((mN T j).testBit x && (mN T l).testBit y && (mN T k).testBit z) = true))).trans p1
  have p5 : s4 35 (fun i j k l => iv ((X4 T i l k j ∧ i = t) ∧ ((mN T l).testBit x && (mN T k).testBit y && (mN T j).testBit z) = true)) = s4 35 (fun i j k l => iv ((X4 T i j k l ∧ i = t) ∧ ((mN T j).testBit x && (mN T k).testBit y && (mN T l).testBit z) = true)) :=
    (s4_34 (fun i j k l => iv ((X4 T i k l j ∧ i = t) ∧ ((mN T k).testBit x && (mN T l).testBit y && (mN T j).testBit z) = true))).trans p4
  rw [e, s4_add, s4_add, s4_add, s4_add, s4_add, p1, p2, p3, p4, p5]
  omega
/-- quadrilaterals with one triple -/
theorem X4_has {V : Nat} {T : sT} (hT : sOk V T) {t : Nat} : 24 * sm (fun n => iv (qdB T n = true ∧ (decide (n / 1225 = t) || (decide (n / 35 % 35 = t) || (decide (n % 35 = t) || decide (ql T n = t)))) = true)) 42875 = 4 * s4 35 (fun i j k l => iv (X4 T i j k l ∧ i = t)) := by
  obtain ⟨s1, s2, s3', s4'⟩ := X4_sym T
  have C : sm (fun n => iv (qdB T n = true ∧ (decide (n / 1225 = t) || (decide (n / 35 % 35 = t) || (decide (n % 35 = t) || decide (ql T n = t)))) = true)) 42875 = s4 35 (fun i j k l => iv ((X4 T i j k l ∧ i < j ∧ j < k ∧ k < l) ∧ (decide (i = t) || (decide (j = t) || (decide (k = t) || decide (l = t)))) = true)) := qd_sum hT (fun i j k l => decide (i = t) || (decide (j = t) || (decide (k = t) || decide (l = t))))
  have hs : sym4 (fun i j k l => X4 T i j k l ∧ (i = t ∨ j = t ∨ k = t ∨ l = t)) := ⟨fun i j k l h => ⟨s1 _ _ _ _ h.1, by have := h.2; omega⟩, fun i j k l h => ⟨s2 _ _ _ _ h.1, by have := h.2; omega⟩, fun i j k l h => ⟨s3' _ _ _ _ h.1, by have := h.2; omega⟩, fun i j k l h => s4' _ _ _ _ h.1⟩
  have B := sym_24 (n := 35) hs
  have D : s4 35 (fun i j k l => iv ((X4 T i j k l ∧ i < j ∧ j < k ∧ k < l) ∧ (decide (i = t) || (decide (j = t) || (decide (k = t) || decide (l = t)))) = true)) = s4 35 (fun i j k l => iv ((X4 T i j k l ∧ (i = t ∨ j = t ∨ k = t ∨ l = t)) ∧ i < j ∧ j < k ∧ k < l)) := s4_ext (fun i j k l _ _ _ _ => iv_eq (by
    simp only [Bool.or_eq_true, decide_eq_true_eq]
    exact ⟨fun z => ⟨⟨z.1.1, z.2⟩, z.1.2⟩, fun z => ⟨⟨z.1.1, z.2⟩, z.1.2⟩⟩))
  have E : s4 35 (fun i j k l => iv (X4 T i j k l ∧ (i = t ∨ j = t ∨ k = t ∨ l = t))) = s4 35 (fun i j k l => iv (X4 T i j k l ∧ i = t) + iv (X4 T i j k l ∧ j = t) + iv (X4 T i j k l ∧ k = t) + iv (X4 T i j k l ∧ l = t)) := s4_ext (fun i j k l _ _ _ _ => by
    by_cases h : X4 T i j k l
    · have d := s4' _ _ _ _ h
      rw [← iv_or (by omega), ← iv_or (by omega), ← iv_or (by omega)]
      exact iv_eq (by
        constructor
        · rintro ⟨-, g⟩
          rcases g with g | g | g | g
          · exact Or.inl (Or.inl (Or.inl ⟨h, g⟩))
          · exact Or.inl (Or.inl (Or.inr ⟨h, g⟩))
          · exact Or.inl (Or.inr ⟨h, g⟩)
          · exact Or.inr ⟨h, g⟩
        · rintro (((g | g) | g) | g)
          · exact ⟨h, Or.inl g.2⟩
          · exact ⟨h, Or.inr (Or.inl g.2)⟩
          · exact ⟨h, Or.inr (Or.inr (Or.inl g.2))⟩
          · exact ⟨h, Or.inr (Or.inr (Or.inr g.2))⟩)
    · rw [iv_f (fun g => h g.1), iv_f (fun g => h g.1), iv_f (fun g => h g.1), iv_f (fun g => h g.1), iv_f (fun g => h g.1)])
  have q1 : s4 35 (fun i j k l => iv (X4 T i j k l ∧ j = t)) = s4 35 (fun i j k l => iv (X4 T i j k l ∧ i = t)) := (s4_ext (fun i j k l _ _ _ _ => iv_eq ⟨fun z => ⟨s1 _ _ _ _ z.1, z.2⟩, fun z => ⟨s1 _ _ _ _ z.1, z.2⟩⟩)).trans (s4_12 (fun i j k l => iv (X4 T i j k l ∧ i = t)))
  have q2 : s4 35 (fun i j k l => iv (X4 T i j k l ∧ k = t)) = s4 35 (fun i j k l => iv (X4 T i j k l ∧ i = t)) := ((s4_ext (fun i j k l _ _ _ _ => iv_eq ⟨fun z => ⟨s2 _ _ _ _ z.1, z.2⟩, fun z => ⟨s2 _ _ _ _ z.1, z.2⟩⟩)).trans (s4_23 (fun i j k l => iv (X4 T i j k l ∧ j = t)))).trans q1
  have q3 : s4 35 (fun i j k l => iv (X4 T i j k l ∧ l = t)) = s4 35 (fun i j k l => iv (X4 T i j k l ∧ i = t)) := ((s4_ext (fun i j k l _ _ _ _ => iv_eq ⟨fun z => ⟨s3' _ _ _ _ z.1, z.2⟩, fun z => ⟨s3' _ _ _ _ z.1, z.2⟩⟩)).trans (s4_34 (fun i j k l => iv (X4 T i j k l ∧ k = t)))).trans q2
  rw [s4_add, s4_add, s4_add, q1, q2, q3] at E
  have F := (congrArg (fun x => 24 * x) (C.trans D)).trans (B.symm.trans E)
  have F : 24 * sm (fun n => iv (qdB T n = true ∧ (decide (n / 1225 = t) || (decide (n / 35 % 35 = t) || (decide (n % 35 = t) || decide (ql T n = t)))) = true)) 42875 = _ := F
  rw [F]
  omega
/-- one triple put: so many quadrilaterals more as it makes -/
theorem X4_cw {V : Nat} {T : sT} (hT : sOk V T) {x y z : Nat} (e : T x y = (z : Int)) : s4 35 (fun i j k l => iv ((X4 T i j k l ∧ i = li T x y) ∧ ((mN T j).testBit x && (mN T k).testBit y && (mN T l).testBit z) = true)) = cw V T x y z := by
  have hne : ¬ T x y = -1 := by omega
  have hV := hT.2.1
  obtain ⟨w, ew, ew2, lx, ly, lz, dxy, dxw, dyw, lt, em, o1, o2, o3⟩ := li_s hT hne
  have hw : w = z := by omega
  subst hw
  have A := Pa_sumG hT (fun i j k l => decide (i = li T x y) && ((mN T j).testBit x && (mN T k).testBit y && (mN T l).testBit w))
  have B : s4 35 (fun i j k l => iv ((X4 T i j k l ∧ i = li T x y) ∧ ((mN T j).testBit x && (mN T k).testBit y && (mN T l).testBit w) = true)) = s4 35 (fun i j k l => iv (X4 T i j k l ∧ (decide (i = li T x y) && ((mN T j).testBit x && (mN T k).testBit y && (mN T l).testBit w)) = true)) := s4_ext (fun i j k l _ _ _ _ => iv_eq (by
    simp only [Bool.and_eq_true, decide_eq_true_eq]
    exact ⟨fun z => ⟨z.1.1, z.1.2, z.2⟩, fun z => ⟨⟨z.1, z.2.1⟩, z.2.2⟩⟩))
  have C : s3 15 (fun p a c => iv (Pa T p a c ∧ (decide (li T p a = li T x y) && ((mN T (li T p c)).testBit x && (mN T (li T a c)).testBit y && (mN T (li T (T p a).toNat (T p c).toNat)).testBit w)) = true)) = sm (fun c => iv (Pa T x y c)) 15 := by
    unfold s3
    refine sm_one (k := x) (by omega) (sm_one (k := y) (by omega) (sm_ext 15 (fun c _ => iv_eq (by
      constructor
      · exact fun z => z.1
      · intro h
        obtain ⟨-, h2, h3, h4, h5⟩ := id h
        obtain ⟨-, -, -, -, -, -, -, -, -, -, -, u1, -, -⟩ := li_s hT h2
        obtain ⟨-, -, -, -, -, -, -, -, -, -, -, u2, -, -⟩ := li_s hT h3
        obtain ⟨-, -, -, -, -, -, -, -, -, -, -, u3, -, -⟩ := li_s hT (u := (T x y).toNat) (v := (T x c).toNat) (by rw [h5]; exact h3)
        rw [ew2] at u3
        unfold onL at u1 u2 u3
        rw [ew2]
        refine ⟨h, ?_⟩
        rw [decide_eq_true rfl, u1, u2, u3]
        rfl))) (fun a ha hne2 => sm_none (fun c _ => iv_f (fun z => hne2 ?_)))) (fun p hp hne2 => sm_none (fun a _ => sm_none (fun c _ => iv_f (fun z => hne2 ?_))))
    · obtain ⟨z1, z2⟩ := z
      simp only [Bool.and_eq_true, decide_eq_true_eq] at z2
      obtain ⟨f1, ⟨f2, f3⟩, -⟩ := z2
      obtain ⟨⟨x1, x2, x3, x4⟩, ⟨n12, n13, n14, n23, n24, n34⟩, -⟩ := Pa_X4 hT z1
      obtain ⟨-, -, -, -, -, -, -, -, -, -, -, v1, v2, -⟩ := li_s hT z1.1
      obtain ⟨-, -, -, -, -, -, -, -, -, -, -, v3, -, -⟩ := li_s hT z1.2.2.1
      by_cases g : a = y
      · exact g
      · exact absurd (on_1 hT x1 x3 g v2 (by rw [f1]; exact o2) v3 f3) n13
    · obtain ⟨z1, z2⟩ := z
      simp only [Bool.and_eq_true, decide_eq_true_eq] at z2
      obtain ⟨f1, ⟨f2, f3⟩, -⟩ := z2
      obtain ⟨⟨x1, x2, x3, x4⟩, ⟨n12, n13, n14, n23, n24, n34⟩, -⟩ := Pa_X4 hT z1
      obtain ⟨-, -, -, -, -, -, -, -, -, -, -, v1, v2, -⟩ := li_s hT z1.1
      obtain ⟨-, -, -, -, -, -, -, -, -, -, -, v3, -, -⟩ := li_s hT z1.2.1
      by_cases g : p = x
      · exact g
      · exact absurd (on_1 hT x1 x2 g v1 (by rw [f1]; exact o1) v3 f2) n12
  have D : sm (fun c => iv (Pa T x y c)) 15 = cw V T x y w := by
    rw [show 15 = V + (15 - V) by omega, sm_split]
    have e0 : sm (fun j => iv (Pa T x y (V + j))) (15 - V) = 0 := sm_none (fun j _ => iv_f (fun z => by
      obtain ⟨-, -, -, -, l5, -⟩ := li_s hT z.2.1
      omega))
    rw [e0, Nat.add_zero]
    unfold cw
    refine sm_ext V (fun c _ => iv_eq ⟨fun z => ?_, fun z => ?_⟩)
    · obtain ⟨z1, z2, z3, z4, z5⟩ := z
      rw [ew2] at z5
      obtain ⟨-, -, -, -, -, -, d, -⟩ := li_s hT z3
      exact ⟨z2, fun q => d q.symm, by omega, z3, z5.symm⟩
    · obtain ⟨z1, z2, z3, z4, z5⟩ := z
      refine ⟨hne, z1, z4, by omega, ?_⟩
      rw [ew2]
      exact z5.symm
  exact B.trans (A.symm.trans (C.trans D))
theorem nQ_put {V : Nat} {T : sT} (hT : sOk V T) {x y z : Nat} (hx : x < V) (hy : y < V) (hz : z < V) (hxy : ¬ x = y) (hyz : ¬ y = z) (hxz : ¬ x = z) (hf : sFree T x y z) : nQ (sPut T x y z) = nQ T + cw V (sPut T x y z) x y z := by
  have hV := hT.2.1
  have hP := sOk_put hT hx hy hz hxy hyz hxz hf
  have ez : sPut T x y z x y = (z : Int) := by
    unfold sPut
    rw [if_pos ⟨hxy, by simp, by simp⟩]
    omega
  have hne : ¬ sPut T x y z x y = -1 := by omega
  obtain ⟨w, ew, ew2, -, -, -, d1, d2, d3, lt, em, o1, o2, o3⟩ := li_s hP hne
  have hw : w = z := by omega
  subst hw
  have eT : uTs (sPut T x y w) ([li (sPut T x y w) x y].map (mN (sPut T x y w))) = T := by
    show uTake (sPut T x y w) (mN (sPut T x y w) (li (sPut T x y w) x y)) = T
    rw [em, uTake_3]
    funext u v
    unfold sTake
    by_cases g : sPr x y w u v
    · rw [if_pos g]
      have sy : ∀ u v, T u v = -1 → T v u = -1 := fun u v e => sy_free hT e
      obtain ⟨f1, f2, f3⟩ := hf
      obtain ⟨g0, g1, g2⟩ := g
      rcases g1 with rfl | rfl | rfl <;> rcases g2 with rfl | rfl | rfl <;> first | exact absurd rfl g0 | exact f1.symm | exact f2.symm | exact f3.symm | exact (sy _ _ f1).symm | exact (sy _ _ f2).symm | exact (sy _ _ f3).symm
    · rw [if_neg g]
      unfold sPut
      rw [if_neg g]
  have a := nQ_take hP (D := [li (sPut T x y w) x y]) (fun t ht => by rw [List.mem_singleton] at ht; rw [ht]; exact lt) (by rw [eT]; exact hT) (fun t => !decide (t = li (sPut T x y w) x y)) (fun t => by rw [List.mem_singleton, Bool.not_eq_true', decide_eq_false_iff_not])
  rw [eT] at a
  have b := X4_has hP (t := li (sPut T x y w) x y)
  rw [X4_one hP lt o1 o2 o3 d1 d3 d2, X4_cw hP ez] at b
  have c : nQ (sPut T x y w) = sm (fun n => iv (qdB (sPut T x y w) n = true ∧ (!decide (n / 1225 = li (sPut T x y w) x y) && (!decide (n / 35 % 35 = li (sPut T x y w) x y) && (!decide (n % 35 = li (sPut T x y w) x y) && !decide (ql (sPut T x y w) n = li (sPut T x y w) x y)))) = true) + iv (qdB (sPut T x y w) n = true ∧ (decide (n / 1225 = li (sPut T x y w) x y) || (decide (n / 35 % 35 = li (sPut T x y w) x y) || (decide (n % 35 = li (sPut T x y w) x y) || decide (ql (sPut T x y w) n = li (sPut T x y w) x y)))) = true)) 42875 := by
    show (fL (qdB (sPut T x y w)) 42875).length = _
    rw [fL_sm]
    refine sm_ext 42875 (fun n _ => ?_)
    rw [iv_b, iv_b]
    generalize decide (n / 1225 = li (sPut T x y w) x y) = b1
    generalize decide (n / 35 % 35 = li (sPut T x y w) x y) = b2
    generalize decide (n % 35 = li (sPut T x y w) x y) = b3
    generalize decide (ql (sPut T x y w) n = li (sPut T x y w) x y) = b4
    cases b1 <;> cases b2 <;> cases b3 <;> cases b4 <;> simp
  rw [sm_add, ← a] at c
  omega
end
/-! ##### 19.m.081.38d ##### -/
section
/-! ===== the class counts the quadrilaterals with a triple ===== -/
theorem u67 : bUp 0 am_m67.1 = true := by decide +kernel
theorem l67E {d o V x y z : Nat} {T : sT} {hp : amH} {R : xQ} {s a b c : Int32} (ho : bo o) (hH : bHk 84 bTT hp) (hB : bdOk hp o V T) (ha : a.toInt = (x : Int)) (hb : b.toInt = (y : Int)) (hc : c.toInt = (z : Int))
    (hR : ∀ r : Int32, r.toInt = ((cw V T x y z : Nat) : Int) → R (.inl (some (.int r))) hp) :
    ∀ (jj t : Nat) (w wt : Int32) (v7 v8 : Option Value), wt.toInt = (t : Int) → t + jj = V → w.toInt = ((sm (fun a => iv (¬ T x a = -1 ∧ ¬ a = y ∧ ¬ a = z ∧ ¬ T y a = -1 ∧ T y a = T z (T x a).toNat)) t : Nat) : Int) → xV (d + 2) am_m67 25 [some (.ref o), some (.int s), some (.int a), some (.int b), some (.int c), some (.int w), some (.int wt), v7, v8] [] hp R := by
  have hT := hB.2.1
  have hV := hT.2.1
  have e0 := hB.1
  intro jj
  induction jj with
  | zero =>
    intro t w wt v7 v8 hwt hj hw
    have et : t = V := by omega
    subst et
    refine xild2 27 ⟨u67, _, rfl⟩ rfl rfl ?_
    refine xald 28 ⟨u67, _, rfl⟩ rfl rfl ?_
    refine xgetC 31 hH ⟨u67, _, rfl⟩ rfl (bo_lt ho) (by decide) (bo_T ho) rfl (by decide) (fun z28 h28 => ?_)
    refine xcmp_ge 34 ⟨u67, _, rfl⟩ rfl (fun c31 => ?_) (fun c31 => ?_)
    · refine xild2 108 ⟨u67, _, rfl⟩ rfl rfl ?_
      exact xret ⟨u67, _, rfl⟩ rfl (hR _ hw)
    · omega
  | succ jj ih =>
    intro t w wt v7 v8 hwt hj hw
    have lw : sm (fun a => iv (¬ T x a = -1 ∧ ¬ a = y ∧ ¬ a = z ∧ ¬ T y a = -1 ∧ T y a = T z (T x a).toNat)) t ≤ sm (fun _ => 1) t := sm_le t (fun i _ => iv_le)
    rw [sm_const] at lw
    have st : sm (fun a => iv (¬ T x a = -1 ∧ ¬ a = y ∧ ¬ a = z ∧ ¬ T y a = -1 ∧ T y a = T z (T x a).toNat)) (t + 1) = sm (fun a => iv (¬ T x a = -1 ∧ ¬ a = y ∧ ¬ a = z ∧ ¬ T y a = -1 ∧ T y a = T z (T x a).toNat)) t + iv (¬ T x t = -1 ∧ ¬ t = y ∧ ¬ t = z ∧ ¬ T y t = -1 ∧ T y t = T z (T x t).toNat) := rfl
    refine xild2 27 ⟨u67, _, rfl⟩ rfl rfl ?_
    refine xald 28 ⟨u67, _, rfl⟩ rfl rfl ?_
    refine xgetC 31 hH ⟨u67, _, rfl⟩ rfl (bo_lt ho) (by decide) (bo_T ho) rfl (by decide) (fun z28 h28 => ?_)
    refine xcmp_ge 34 ⟨u67, _, rfl⟩ rfl (fun c31 => ?_) (fun c31 => ?_)
    · omega
    · refine xald 35 ⟨u67, _, rfl⟩ rfl rfl ?_
      refine xild 36 ⟨u67, _, rfl⟩ rfl rfl ?_
      refine xild2 38 ⟨u67, _, rfl⟩ rfl rfl ?_
      refine xcallC 41 (o := o) [.int _, .int _] [] hH ⟨u67, _, rfl⟩ rfl rfl (bo_lt ho) (bo_T ho) (by decide) rfl ⟨rfl, rfl, rfl, rfl⟩ rfl (k_thd ho hH hB (fun z38 h38 => ⟨_, rfl, ?_⟩))
      rw [if_pos (by omega), show a.toInt.toNat = x by omega, show wt.toInt.toNat = t by omega] at h38
      refine xist2 43 ⟨u67, _, rfl⟩ rfl rfl ?_
      refine xild2 45 ⟨u67, _, rfl⟩ rfl rfl ?_
      refine xcst 46 (-1) ⟨u67, _, rfl⟩ rfl (by decide) (fun z45 h45 => ?_)
      refine xcmp_eq 49 ⟨u67, _, rfl⟩ rfl (fun c46 => ?_) (fun c46 => ?_)
      · have q0 : iv (¬ T x t = -1 ∧ ¬ t = y ∧ ¬ t = z ∧ ¬ T y t = -1 ∧ T y t = T z (T x t).toNat) = 0 := iv_f (fun g => by omega)
        refine xinc 103 (1) ⟨u67, _, rfl⟩ rfl rfl rfl (by decide) (by omega) (by omega) (fun z100 h100 => ?_)
        refine xgoto ⟨u67, _, rfl⟩ ?_
        exact ih (t + 1) w z100 _ _ (by omega) (by omega) (by rw [st]; omega)
      · refine xild2 51 ⟨u67, _, rfl⟩ rfl rfl ?_
        refine xild 52 ⟨u67, _, rfl⟩ rfl rfl ?_
        refine xcmp_eq 55 ⟨u67, _, rfl⟩ rfl (fun c52 => ?_) (fun c52 => ?_)
        · have q0 : iv (¬ T x t = -1 ∧ ¬ t = y ∧ ¬ t = z ∧ ¬ T y t = -1 ∧ T y t = T z (T x t).toNat) = 0 := iv_f (fun g => by omega)
          refine xinc 103 (1) ⟨u67, _, rfl⟩ rfl rfl rfl (by decide) (by omega) (by omega) (fun z100 h100 => ?_)
          refine xgoto ⟨u67, _, rfl⟩ ?_
          exact ih (t + 1) w z100 _ _ (by omega) (by omega) (by rw [st]; omega)
        · refine xild2 57 ⟨u67, _, rfl⟩ rfl rfl ?_
          refine xild2 59 ⟨u67, _, rfl⟩ rfl rfl ?_
          refine xcmp_eq 62 ⟨u67, _, rfl⟩ rfl (fun c59 => ?_) (fun c59 => ?_)
          · have q0 : iv (¬ T x t = -1 ∧ ¬ t = y ∧ ¬ t = z ∧ ¬ T y t = -1 ∧ T y t = T z (T x t).toNat) = 0 := iv_f (fun g => by omega)
            refine xinc 103 (1) ⟨u67, _, rfl⟩ rfl rfl rfl (by decide) (by omega) (by omega) (fun z100 h100 => ?_)
            refine xgoto ⟨u67, _, rfl⟩ ?_
            exact ih (t + 1) w z100 _ _ (by omega) (by omega) (by rw [st]; omega)
          · refine xald 63 ⟨u67, _, rfl⟩ rfl rfl ?_
            refine xild 64 ⟨u67, _, rfl⟩ rfl rfl ?_
            refine xild2 66 ⟨u67, _, rfl⟩ rfl rfl ?_
            refine xcallC 69 (o := o) [.int _, .int _] [] hH ⟨u67, _, rfl⟩ rfl rfl (bo_lt ho) (bo_T ho) (by decide) rfl ⟨rfl, rfl, rfl, rfl⟩ rfl (k_thd ho hH hB (fun z66 h66 => ⟨_, rfl, ?_⟩))
            rw [if_pos (by omega), show b.toInt.toNat = y by omega, show wt.toInt.toNat = t by omega] at h66
            refine xist2 71 ⟨u67, _, rfl⟩ rfl rfl ?_
            refine xild2 73 ⟨u67, _, rfl⟩ rfl rfl ?_
            refine xild2 75 ⟨u67, _, rfl⟩ rfl rfl ?_
            refine xcst 76 (-1) ⟨u67, _, rfl⟩ rfl (by decide) (fun z75 h75 => ?_)
            refine xcmp_eq 79 ⟨u67, _, rfl⟩ rfl (fun c76 => ?_) (fun c76 => ?_)
            · have q0 : iv (¬ T x t = -1 ∧ ¬ t = y ∧ ¬ t = z ∧ ¬ T y t = -1 ∧ T y t = T z (T x t).toNat) = 0 := iv_f (fun g => by omega)
              refine xcst 97 (0) ⟨u67, _, rfl⟩ rfl (by decide) (fun z96 h96 => ?_)
              refine xadd 98 _ ⟨u67, _, rfl⟩ rfl rfl (by omega) (by omega) (fun z97 h97 => ?_)
              refine xist2 100 ⟨u67, _, rfl⟩ rfl rfl ?_
              refine xinc 103 (1) ⟨u67, _, rfl⟩ rfl rfl rfl (by decide) (by omega) (by omega) (fun z100 h100 => ?_)
              refine xgoto ⟨u67, _, rfl⟩ ?_
              exact ih (t + 1) z97 z100 _ _ (by omega) (by omega) (by rw [st]; omega)
            · refine xild2 81 ⟨u67, _, rfl⟩ rfl rfl ?_
              refine xald 82 ⟨u67, _, rfl⟩ rfl rfl ?_
              refine xild2 84 ⟨u67, _, rfl⟩ rfl rfl ?_
              refine xild2 86 ⟨u67, _, rfl⟩ rfl rfl ?_
              refine xcallC 89 (o := o) [.int _, .int _] [.int _, .int _] hH ⟨u67, _, rfl⟩ rfl rfl (bo_lt ho) (bo_T ho) (by decide) rfl ⟨rfl, rfl, rfl, rfl⟩ rfl (k_thd ho hH hB (fun z86 h86 => ⟨_, rfl, ?_⟩))
              obtain ⟨k, ek, -⟩ := sOk_at hT (a := x) (b := t) rfl (by omega)
              rw [if_pos (by omega), show c.toInt.toNat = z by omega, show z38.toInt.toNat = (T x t).toNat by rw [h38]] at h86
              refine xcmp_ne 92 ⟨u67, _, rfl⟩ rfl (fun c89 => ?_) (fun c89 => ?_)
              · have q0 : iv (¬ T x t = -1 ∧ ¬ t = y ∧ ¬ t = z ∧ ¬ T y t = -1 ∧ T y t = T z (T x t).toNat) = 0 := iv_f (fun g => by omega)
                refine xcst 97 (0) ⟨u67, _, rfl⟩ rfl (by decide) (fun z96 h96 => ?_)
                refine xadd 98 _ ⟨u67, _, rfl⟩ rfl rfl (by omega) (by omega) (fun z97 h97 => ?_)
                refine xist2 100 ⟨u67, _, rfl⟩ rfl rfl ?_
                refine xinc 103 (1) ⟨u67, _, rfl⟩ rfl rfl rfl (by decide) (by omega) (by omega) (fun z100 h100 => ?_)
                refine xgoto ⟨u67, _, rfl⟩ ?_
                exact ih (t + 1) z97 z100 _ _ (by omega) (by omega) (by rw [st]; omega)
              · have q1 : iv (¬ T x t = -1 ∧ ¬ t = y ∧ ¬ t = z ∧ ¬ T y t = -1 ∧ T y t = T z (T x t).toNat) = 1 := iv_t ⟨by omega, by omega, by omega, by omega, by omega⟩
                refine xcst 93 (1) ⟨u67, _, rfl⟩ rfl (by decide) (fun z92 h92 => ?_)
                refine xgoto ⟨u67, _, rfl⟩ ?_
                refine xadd 98 _ ⟨u67, _, rfl⟩ rfl rfl (by omega) (by omega) (fun z97 h97 => ?_)
                refine xist2 100 ⟨u67, _, rfl⟩ rfl rfl ?_
                refine xinc 103 (1) ⟨u67, _, rfl⟩ rfl rfl rfl (by decide) (by omega) (by omega) (fun z100 h100 => ?_)
                refine xgoto ⟨u67, _, rfl⟩ ?_
                exact ih (t + 1) z97 z100 _ _ (by omega) (by omega) (by rw [st]; omega)
theorem k_cnt {d o V x y z : Nat} {T : sT} {hp : amH} {R : xQ} {s : Int32} (ho : bo o) (hH : bHk 84 bTT hp) (hB : bdOk hp o V T) (hs : s.toInt = ((m3 x y z : Nat) : Int)) (h1 : x < y) (h2 : y < z) (h3 : z < V)
    (hR : ∀ r : Int32, r.toInt = ((cw V T x y z : Nat) : Int) → R (.inl (some (.int r))) hp) : xK (d + 2) 67 [.ref o, .int s] hp R := by
  have hV := hB.2.1.2.1
  have ml : m3 x y z < 32768 := m3_lt (by omega) (by omega) (by omega)
  obtain ⟨mm0, mm1, mm2⟩ := mem3 h1 h2 (show z < 15 by omega)
  refine xin (M := am_m67) rfl rfl (by unfold xAv; simp [amOk, bo_lt ho, Value.category]) ?_
  refine xild 1 ⟨u67, _, rfl⟩ rfl rfl ?_
  refine xcst 2 (0) ⟨u67, _, rfl⟩ rfl (by decide) (fun z1 h1 => ?_)
  refine xcallS 5 [.int _, .int _] [] hH ⟨u67, _, rfl⟩ rfl rfl rfl rfl rfl (k_mem hH hs ml (i := 0) (by omega) (fun z2 h2 => ⟨_, rfl, ?_⟩))
  rw [mm0] at h2
  refine xist 6 ⟨u67, _, rfl⟩ rfl rfl ?_
  refine xild 7 ⟨u67, _, rfl⟩ rfl rfl ?_
  refine xcst 8 (1) ⟨u67, _, rfl⟩ rfl (by decide) (fun z7 h7 => ?_)
  refine xcallS 11 [.int _, .int _] [] hH ⟨u67, _, rfl⟩ rfl rfl rfl rfl rfl (k_mem hH hs ml (i := 1) (by omega) (fun z8 h8 => ⟨_, rfl, ?_⟩))
  rw [mm1] at h8
  refine xist 12 ⟨u67, _, rfl⟩ rfl rfl ?_
  refine xild 13 ⟨u67, _, rfl⟩ rfl rfl ?_
  refine xcst 14 (2) ⟨u67, _, rfl⟩ rfl (by decide) (fun z13 h13 => ?_)
  refine xcallS 17 [.int _, .int _] [] hH ⟨u67, _, rfl⟩ rfl rfl rfl rfl rfl (k_mem hH hs ml (i := 2) (by omega) (fun z14 h14 => ⟨_, rfl, ?_⟩))
  rw [mm2] at h14
  refine xist2 19 ⟨u67, _, rfl⟩ rfl rfl ?_
  refine xcst 20 (0) ⟨u67, _, rfl⟩ rfl (by decide) (fun z19 h19 => ?_)
  refine xist2 22 ⟨u67, _, rfl⟩ rfl rfl ?_
  refine xcst 23 (0) ⟨u67, _, rfl⟩ rfl (by decide) (fun z22 h22 => ?_)
  refine xist2 25 ⟨u67, _, rfl⟩ rfl rfl ?_
  refine xpad 2 ?_
  exact l67E ho hH hB h2 h8 h14 hR V 0 _ _ _ _ (by omega) (by omega) (by show z19.toInt = ((0 : Nat) : Int); omega)
end
/-! ##### 19.m.082.38e ##### -/
section
/-! ===== the lowest of a set of numbers, in longs ===== -/
noncomputable def jL : List Nat → Nat
  | [] => 0
  | x :: r => 2 ^ x + jL r
/-- rising, below 35 -/
noncomputable def ris : List Nat → Prop
  | [] => True
  | x :: r => (x < 35 ∧ ∀ y, y ∈ r → x < y) ∧ ris r
theorem p2s (x : Nat) : 2 ^ (x + 1) = 2 ^ x + 2 ^ x := by rw [Nat.pow_succ]; omega
theorem jL_le : ∀ {L : List Nat} {x : Nat}, x ≤ 35 → (∀ y, y ∈ L → x ≤ y) → ris L → jL L + 2 ^ x ≤ 2 ^ 35
  | [], x, hx, _, _ => by
    show 0 + 2 ^ x ≤ 2 ^ 35
    rw [Nat.zero_add]
    exact Nat.pow_le_pow_right (by decide) hx
  | y :: r, x, hx, h, hr => by
    obtain ⟨⟨h1, h2⟩, h3⟩ := hr
    have i := jL_le (L := r) (x := y + 1) (by omega) (fun z hz => h2 z hz) h3
    have j : 2 ^ x ≤ 2 ^ y := Nat.pow_le_pow_right (by decide) (h y List.mem_cons_self)
    rw [p2s] at i
    show 2 ^ y + jL r + 2 ^ x ≤ 2 ^ 35
    omega
theorem jL_mul : ∀ {L : List Nat} {x : Nat}, (∀ y, y ∈ L → x < y) → ∃ s, jL L = 2 ^ (x + 1) * s
  | [], x, _ => ⟨0, rfl⟩
  | y :: r, x, h => by
    obtain ⟨s, e⟩ := jL_mul (L := r) (x := x) (fun z hz => h z (List.mem_cons_of_mem _ hz))
    have hy := h y List.mem_cons_self
    refine ⟨2 ^ (y - (x + 1)) + s, ?_⟩
    show 2 ^ y + jL r = _
    rw [e, Nat.mul_add, ← Nat.pow_add, show x + 1 + (y - (x + 1)) = y by omega]
theorem low1 (x s : Nat) : (2 ^ (x + 1) * s + 2 ^ x) &&& (2 ^ (x + 1) * s + (2 ^ x - 1)) = 2 ^ (x + 1) * s := by
  have l1 : 2 ^ x < 2 ^ (x + 1) := by rw [p2s]; have := Nat.two_pow_pos x; omega
  apply Nat.eq_of_testBit_eq
  intro j
  have e0 : (2 ^ (x + 1) * s).testBit j = (2 ^ (x + 1) * s + 0).testBit j := congrArg (fun z => Nat.testBit z j) (Nat.add_zero _).symm
  rw [e0, Nat.testBit_and, Nat.testBit_two_pow_mul_add s l1, Nat.testBit_two_pow_mul_add s (show 2 ^ x - 1 < 2 ^ (x + 1) by omega), Nat.testBit_two_pow_mul_add s (Nat.two_pow_pos (x + 1))]
  by_cases h : j < x + 1
  · rw [if_pos h, if_pos h, if_pos h, Nat.testBit_two_pow, Nat.testBit_two_pow_sub_one, Nat.zero_testBit]
    by_cases g : x = j
    · rw [decide_eq_false (show ¬ j < x by omega), Bool.and_false]
    · rw [decide_eq_false g, Bool.false_and]
  · rw [if_neg h, if_neg h, if_neg h, Bool.and_self]
theorem low2 {x s : Nat} (hx : x < 63) (hs : s < 2 ^ (63 - x)) : (2 ^ (x + 1) * s + 2 ^ x) &&& (2 ^ 64 - (2 ^ (x + 1) * s + 2 ^ x)) = 2 ^ x := by
  have l1 : 2 ^ x < 2 ^ (x + 1) := by rw [p2s]; have := Nat.two_pow_pos x; omega
  have e : 2 ^ 64 - (2 ^ (x + 1) * s + 2 ^ x) = 2 ^ (x + 1) * (2 ^ (63 - x) - (s + 1)) + 2 ^ x := by
    have e1 : 2 ^ (x + 1) * 2 ^ (63 - x) = 2 ^ 64 := by rw [← Nat.pow_add, show x + 1 + (63 - x) = 64 by omega]
    have e2 : 2 ^ (x + 1) * (s + 1) ≤ 2 ^ (x + 1) * 2 ^ (63 - x) := Nat.mul_le_mul_left _ hs
    rw [Nat.mul_sub, e1]
    rw [e1, Nat.mul_add, Nat.mul_one] at e2
    rw [Nat.mul_add, Nat.mul_one]
    have e3 := p2s x
    generalize 2 ^ (x + 1) * s = A at *
    omega
  rw [e]
  apply Nat.eq_of_testBit_eq
  intro j
  rw [Nat.testBit_and, Nat.testBit_two_pow_mul_add s l1, Nat.testBit_two_pow_mul_add _ l1]
  by_cases h : j < x + 1
  · rw [if_pos h, if_pos h, Bool.and_self]
  · rw [if_neg h, if_neg h, Nat.testBit_two_pow_sub_succ hs, Nat.testBit_two_pow, decide_eq_false (show ¬ x = j by omega)]
    cases s.testBit (j - (x + 1)) <;> simp
theorem j_low {x : Int64} {m t : Nat} (h : x.toInt = (m : Int)) (hm : 0 < m) (e : m &&& (2 ^ 64 - m) = t) (ht : t < 2 ^ 62) : (x &&& -x).toInt = (t : Int) := by
  obtain ⟨e1, l1⟩ := jN_t h
  have e2 : jN (-x) = 2 ^ 64 - m := by
    unfold jN at *
    rw [Int64.toBitVec_neg, BitVec.toNat_neg, e1]
    exact Nat.mod_eq_of_lt (by omega)
  have e3 : jN (x &&& -x) = t := by
    unfold jN at *
    rw [Int64.toBitVec_and, BitVec.toNat_and, e1, e2, e]
  rw [t_jN (by rw [e3]; omega), e3]
/-- the lowest of a rising list: taken off, and alone -/
theorem jL_low {x : Nat} {r : List Nat} (h : ris (x :: r)) : jL (x :: r) &&& (jL (x :: r) - 1) = jL r ∧ jL (x :: r) &&& (2 ^ 64 - jL (x :: r)) = 2 ^ x ∧ 0 < jL (x :: r) ∧ jL (x :: r) < 2 ^ 35 := by
  obtain ⟨⟨h1, h2⟩, h3⟩ := id h
  obtain ⟨s, e⟩ := jL_mul (L := r) (x := x) h2
  have b := jL_le (L := x :: r) (x := 0) (by omega) (fun _ _ => Nat.zero_le _) h
  have p := Nat.two_pow_pos x
  have e2 : jL (x :: r) = 2 ^ (x + 1) * s + 2 ^ x := by
    show 2 ^ x + jL r = _
    rw [e]
    omega
  have hs : s < 2 ^ (63 - x) := by
    have e1 : 2 ^ (x + 1) * 2 ^ (63 - x) = 2 ^ 64 := by rw [← Nat.pow_add, show x + 1 + (63 - x) = 64 by omega]
    have e3 : 2 ^ (x + 1) * s < 2 ^ (x + 1) * 2 ^ (63 - x) := by rw [e1]; omega
    exact Nat.lt_of_mul_lt_mul_left e3
  refine ⟨?_, ?_, by omega, by omega⟩
  · rw [e2, show 2 ^ (x + 1) * s + 2 ^ x - 1 = 2 ^ (x + 1) * s + (2 ^ x - 1) by omega, low1, e]
  · rw [e2]
    exact low2 (by omega) hs
/-! ===== the bits of a long counted ===== -/
noncomputable def jush (x : Int64) (y : Int32) : Int64 := (x.toUInt64 >>> (y.toInt64.toUInt64 &&& Int64.toUInt64 63)).toInt64
theorem xlushr {M : amM} {pc a b d : Nat} {L : List (Option Value)} {st : List Value} {hp : amH} {Q : xQ} (q : Nat) {x : Int64} {y : Int32} (h : xI M pc .lushr a b) (e : q = pc + 1) (hw : xV d M q L (.long (jush x y) :: st) hp Q) : xV d M pc L (.int y :: .long x :: st) hp Q := by
  refine xstep h (fun cl hl => ⟨cl, ?_, hl⟩) hw
  subst e
  simp [amDo, amStep, amLI, jush]
theorem j_eq {x y : Int64} (h : x.toInt = y.toInt) : x = y := Int64.toInt_inj.mp h
noncomputable def bj1 (x : Int64) : Int64 := x - (jush x 1 &&& 6148914691236517205)
noncomputable def bj2 (x : Int64) : Int64 := (x &&& 3689348814741910323) + (jush x 2 &&& 3689348814741910323)
noncomputable def bj3 (x : Int64) : Int64 := (x + jush x 4) &&& 1085102592571150095
noncomputable def bjS (k : Int32) (x : Int64) : Int64 := x + jush x k
noncomputable def bcJF (x : Int64) : Int32 := (bjS 32 (bjS 16 (bjS 8 (bj3 (bj2 (bj1 x)))))).toInt32 &&& 127
theorem bj_pow : ∀ x : Fin 36, (bcJF (Int64.ofNat (2 ^ x.1 - 1))).toInt = (x.1 : Int) := by decide +kernel
theorem u344 : bUp 0 am_m344.1 = true := by decide +kernel
theorem k_bcJ {d p : Nat} {hp : amH} {R : xQ} {x : Int64} (hx : x.toInt = ((2 ^ p - 1 : Nat) : Int)) (hp36 : p < 36) (hR : ∀ r : Int32, r.toInt = (p : Int) → R (.inl (some (.int r))) hp) : xK d 344 [.long x] hp R := by
  have q := bj_pow ⟨p, hp36⟩
  have l1 : 2 ^ p ≤ 2 ^ 35 := Nat.pow_le_pow_right (by decide) (by omega)
  have ex : x = Int64.ofNat (2 ^ p - 1) := j_eq (by rw [hx, Int64.toInt_ofNat_of_lt (by omega)])
  have q : (bcJF (Int64.ofNat (2 ^ p - 1))).toInt = (p : Int) := q
  rw [← ex] at q
  refine xinJ (M := am_m344) rfl rfl rfl ?_
  refine xlld 1 ⟨u344, _, rfl⟩ rfl rfl ?_
  refine xlld 2 ⟨u344, _, rfl⟩ rfl rfl ?_
  refine xcst 3 (1) ⟨u344, _, rfl⟩ rfl (by decide) (fun z2 h2 => ?_)
  obtain rfl : z2 = (1 : Int32) := x_eq.mpr (by rw [h2]; decide)
  refine xlushr 4 ⟨u344, _, rfl⟩ rfl ?_
  refine xldc2 7 (6148914691236517205) ⟨u344, _, rfl⟩ rfl (by decide +kernel) (fun z4 h4 => ?_)
  obtain rfl : z4 = (6148914691236517205 : Int64) := j_eq (by rw [h4]; decide +kernel)
  refine xland 8 ⟨u344, _, rfl⟩ rfl ?_
  refine xlsub 9 ⟨u344, _, rfl⟩ rfl ?_
  refine xlst 10 ⟨u344, _, rfl⟩ rfl rfl ?_
  refine xlld 11 ⟨u344, _, rfl⟩ rfl rfl ?_
  refine xldc2 14 (3689348814741910323) ⟨u344, _, rfl⟩ rfl (by decide +kernel) (fun z11 h11 => ?_)
  obtain rfl : z11 = (3689348814741910323 : Int64) := j_eq (by rw [h11]; decide +kernel)
  refine xland 15 ⟨u344, _, rfl⟩ rfl ?_
  refine xlld 16 ⟨u344, _, rfl⟩ rfl rfl ?_
  refine xcst 17 (2) ⟨u344, _, rfl⟩ rfl (by decide) (fun z16 h16 => ?_)
  obtain rfl : z16 = (2 : Int32) := x_eq.mpr (by rw [h16]; decide)
  refine xlushr 18 ⟨u344, _, rfl⟩ rfl ?_
  refine xldc2 21 (3689348814741910323) ⟨u344, _, rfl⟩ rfl (by decide +kernel) (fun z18 h18 => ?_)
  obtain rfl : z18 = (3689348814741910323 : Int64) := j_eq (by rw [h18]; decide +kernel)
  refine xland 22 ⟨u344, _, rfl⟩ rfl ?_
  refine xladd 23 ⟨u344, _, rfl⟩ rfl ?_
  refine xlst 24 ⟨u344, _, rfl⟩ rfl rfl ?_
  refine xlld 25 ⟨u344, _, rfl⟩ rfl rfl ?_
  refine xlld 26 ⟨u344, _, rfl⟩ rfl rfl ?_
  refine xcst 27 (4) ⟨u344, _, rfl⟩ rfl (by decide) (fun z26 h26 => ?_)
  obtain rfl : z26 = (4 : Int32) := x_eq.mpr (by rw [h26]; decide)
  refine xlushr 28 ⟨u344, _, rfl⟩ rfl ?_
  refine xladd 29 ⟨u344, _, rfl⟩ rfl ?_
  refine xldc2 32 (1085102592571150095) ⟨u344, _, rfl⟩ rfl (by decide +kernel) (fun z29 h29 => ?_)
  obtain rfl : z29 = (1085102592571150095 : Int64) := j_eq (by rw [h29]; decide +kernel)
  refine xland 33 ⟨u344, _, rfl⟩ rfl ?_
  refine xlst 34 ⟨u344, _, rfl⟩ rfl rfl ?_
  refine xlld 35 ⟨u344, _, rfl⟩ rfl rfl ?_
  refine xlld 36 ⟨u344, _, rfl⟩ rfl rfl ?_
  refine xbip 38 (8) ⟨u344, _, rfl⟩ rfl (by decide) (fun z36 h36 => ?_)
  obtain rfl : z36 = (8 : Int32) := x_eq.mpr (by rw [h36]; decide)
  refine xlushr 39 ⟨u344, _, rfl⟩ rfl ?_
  refine xladd 40 ⟨u344, _, rfl⟩ rfl ?_
  refine xlst 41 ⟨u344, _, rfl⟩ rfl rfl ?_
  refine xlld 42 ⟨u344, _, rfl⟩ rfl rfl ?_
  refine xlld 43 ⟨u344, _, rfl⟩ rfl rfl ?_
  refine xbip 45 (16) ⟨u344, _, rfl⟩ rfl (by decide) (fun z43 h43 => ?_)
  obtain rfl : z43 = (16 : Int32) := x_eq.mpr (by rw [h43]; decide)
  refine xlushr 46 ⟨u344, _, rfl⟩ rfl ?_
  refine xladd 47 ⟨u344, _, rfl⟩ rfl ?_
  refine xlst 48 ⟨u344, _, rfl⟩ rfl rfl ?_
  refine xlld 49 ⟨u344, _, rfl⟩ rfl rfl ?_
  refine xlld 50 ⟨u344, _, rfl⟩ rfl rfl ?_
  refine xbip 52 (32) ⟨u344, _, rfl⟩ rfl (by decide) (fun z50 h50 => ?_)
  obtain rfl : z50 = (32 : Int32) := x_eq.mpr (by rw [h50]; decide)
  refine xlushr 53 ⟨u344, _, rfl⟩ rfl ?_
  refine xladd 54 ⟨u344, _, rfl⟩ rfl ?_
  refine xlst 55 ⟨u344, _, rfl⟩ rfl rfl ?_
  refine xlld 56 ⟨u344, _, rfl⟩ rfl rfl ?_
  refine xl2i 57 ⟨u344, _, rfl⟩ rfl ?_
  refine xbip 59 (127) ⟨u344, _, rfl⟩ rfl (by decide) (fun z57 h57 => ?_)
  obtain rfl : z57 = (127 : Int32) := x_eq.mpr (by rw [h57]; decide)
  refine xand 60 ⟨u344, _, rfl⟩ rfl ?_
  exact xret ⟨u344, _, rfl⟩ rfl (hR (bcJF x) q)
end
