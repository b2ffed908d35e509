/-! ===== how many quadrilaterals behind triples taken and put (pure) ===== -/
abbrev nQ (T : sT) : Nat := (fL (qdB T) 42875).length
/-- as Pa_sum, with what is said of the four triples -/
theorem Pa_sumG {V : Nat} {T : sT} (hT : sOk V T) (g : Nat → Nat → Nat → Nat → Bool) : s3 15 (fun p a c => iv (Pa T p a c ∧ g (li T p a) (li T p c) (li T a c) (li T (T p a).toNat (T p c).toNat) = true)) = s4 35 (fun i j k l => iv (X4 T i j k l ∧ g i j k l = true)) := by
  have hV := hT.2.1
  have l35 := trL_35 hT 225
  have a1 : ∀ p a c, iv (Pa T p a c ∧ g (li T p a) (li T p c) (li T a c) (li T (T p a).toNat (T p c).toNat) = true) = s4 35 (fun i j k l => iv ((Pa T p a c ∧ g i j k l = true) ∧ i = li T p a ∧ j = li T p c ∧ k = li T a c ∧ l = li T (T p a).toNat (T p c).toNat)) := by
    intro p a c
    by_cases h : Pa T p a c
    · obtain ⟨⟨x1, x2, x3, x4⟩, -⟩ := Pa_X4 hT h
      refine (s4_one (i0 := li T p a) (j0 := li T p c) (k0 := li T a c) (l0 := li T (T p a).toNat (T p c).toNat) (by omega) (by omega) (by omega) (by omega) (iv_eq ⟨fun z => z.1, fun z => ⟨z, rfl, rfl, rfl, rfl⟩⟩) (fun i j k l hn => iv_f (fun z => hn z.2))).symm
    · rw [iv_f (fun z => h z.1)]
      unfold s4
      exact (sm_none (fun i _ => s3_none (fun j k l _ _ _ => iv_f (fun z => h z.1.1)))).symm
  have a2 : ∀ i j k l, s3 15 (fun p a c => iv ((Pa T p a c ∧ g i j k l = true) ∧ i = li T p a ∧ j = li T p c ∧ k = li T a c ∧ l = li T (T p a).toNat (T p c).toNat)) = iv (X4 T i j k l ∧ g i j k l = true) := by
    intro i j k l
    by_cases h : X4 T i j k l
    · obtain ⟨p, a, b, c, d, e, ⟨p1, a1, b1⟩, ⟨p2, c1, d1⟩, ⟨a2, c2, e1⟩, ⟨b2, d2, e2⟩, t1, t2, t3, t4, nbc⟩ := X4_pts hT h
      obtain ⟨⟨bi, bj, bk, bl⟩, ⟨n12, n13, n14, n23, n24, n34⟩, -⟩ := id h
      have hP : Pa T p a c := ⟨by omega, by omega, by omega, by omega, by rw [t1, t2, Int.toNat_natCast, Int.toNat_natCast, t4, t3]⟩
      obtain ⟨b', eb, eb2, lp, la, -, q1, q2, q3, ci, -, i1, i2, i3⟩ := li_s hT hP.1
      obtain ⟨d', ed, ed2, -, lc, -, r1, r2, r3, cj, -, j1, j2, j3⟩ := li_s hT hP.2.1
      obtain ⟨e', ee, ee2, -, -, -, s1, s2, s3', ck, -, k1, k2, k3⟩ := li_s hT hP.2.2.1
      have hbd : ¬ T b d = -1 := by omega
      obtain ⟨f', ef, ef2, -, -, -, v1, v2, v3, cl, -, m1, m2, m3'⟩ := li_s hT hbd
      have ei : i = li T p a := on_1 hT bi ci q1 p1 a1 i1 i2
      have ej : j = li T p c := on_1 hT bj cj r1 p2 c1 j1 j2
      have ek : k = li T a c := on_1 hT bk ck s1 a2 c2 k1 k2
      have el : l = li T (T p a).toNat (T p c).toNat := by
        rw [t1, t2, Int.toNat_natCast, Int.toNat_natCast]
        exact on_1 hT bl cl v1 b2 d2 m1 m2
      refine s3_one (i0 := p) (j0 := a) (k0 := c) (by omega) (by omega) (by omega) (iv_eq ⟨fun z => ⟨h, z.1.2⟩, fun z => ⟨⟨hP, z.2⟩, ei, ej, ek, el⟩⟩) (fun p' a' c' _ _ _ hn => iv_f (fun z => hn ?_))
      obtain ⟨⟨w0, -⟩, w1, w2, w3, -⟩ := z
      obtain ⟨-, -, -, -, -, -, -, -, -, -, -, y1, y2, -⟩ := li_s hT w0.1
      obtain ⟨-, -, -, -, -, -, -, -, -, -, -, y3, y4, -⟩ := li_s hT w0.2.1
      obtain ⟨-, -, -, -, -, -, -, -, -, -, -, y5, y6, -⟩ := li_s hT w0.2.2.1
      rw [← w1] at y1 y2
      rw [← w2] at y3 y4
      rw [← w3] at y5 y6
      refine ⟨?_, ?_, ?_⟩
      · by_cases z : p' = p
        · exact z
        · exact absurd (on_1 hT bi bj z y1 p1 y3 p2) n12
      · by_cases z : a' = a
        · exact z
        · exact absurd (on_1 hT bi bk z y2 a1 y5 a2) n13
      · by_cases z : c' = c
        · exact z
        · exact absurd (on_1 hT bj bk z y4 c1 y6 c2) n23
    · rw [iv_f (fun z => h z.1)]
      refine s3_none (fun p a c _ _ _ => iv_f (fun z => h ?_))
      obtain ⟨⟨w0, -⟩, rfl, rfl, rfl, rfl⟩ := z
      exact Pa_X4 hT w0
  rw [s3_ext (fun p a c _ _ _ => a1 p a c), s3_s4]
  exact s4_ext (fun i j k l _ _ _ _ => a2 i j k l)
theorem nQ_24 {V : Nat} {T : sT} (hT : sOk V T) : 24 * nQ T = s3 15 (fun p a c => iv (Pa T p a c)) := by
  have a := qd_24 hT (fun _ => true)
  have c : s3 15 (fun p a c => iv (Pa T p a c ∧ true = true ∧ true = true ∧ true = true ∧ true = true)) = s3 15 (fun p a c => iv (Pa T p a c)) := s3_ext (fun p a c _ _ _ => iv_eq ⟨fun z => z.1, fun z => ⟨z, rfl, rfl, rfl, rfl⟩⟩)
  have d : sm (fun n => iv (qdB T n = true ∧ (true && (true && (true && true))) = true)) 42875 = nQ T := by
    show _ = (fL (qdB T) 42875).length
    rw [fL_sm]
    exact sm_ext 42875 (fun n _ => iv_eq ⟨fun z => z.1, fun z => ⟨z, rfl⟩⟩)
  rw [c, d] at a
  exact a
/-- the triple of a covered pair, among those numbered in a list -/
theorem in2_li {V : Nat} {T : sT} (hT : sOk V T) {t u v : Nat} (ht : t < (trL T 225).length) (h : in2 (mN T t) u v) : ¬ T u v = -1 ∧ li T u v = t := by
  have g := on_T hT ht h.2.1 h.2.2 h.1
  obtain ⟨w, -, -, -, -, -, d1, -, -, l1, -, o1, o2, -⟩ := li_s hT g.1
  exact ⟨g.1, on_1 hT l1 ht d1 o1 o2 h.2.1 h.2.2⟩
theorem uTs_D {V : Nat} {T : sT} (hT : sOk V T) {D : List Nat} (hD : ∀ t, t ∈ D → t < (trL T 225).length) (u v : Nat) : (¬ T u v = -1 ∧ ¬ li T u v ∈ D → uTs T (D.map (mN T)) u v = T u v) ∧ (T u v = -1 ∨ li T u v ∈ D → uTs T (D.map (mN T)) u v = -1) := by
  constructor
  · rintro ⟨h1, h2⟩
    refine uTs_out (fun m hm g => ?_)
    obtain ⟨t, t1, rfl⟩ := List.mem_map.mp hm
    have := (in2_li hT (hD t t1) g).2
    rw [this] at h2
    exact h2 t1
  · intro h
    by_cases e : T u v = -1
    · exact uTs_none e
    · rcases h with h | h
      · exact absurd h e
      · obtain ⟨w, -, -, -, -, -, d1, -, -, l1, -, o1, o2, -⟩ := li_s hT e
        exact uTs_in (m := mN T (li T u v)) (List.mem_map.mpr ⟨_, h, rfl⟩) ⟨d1, o1, o2⟩
/-- the quadrilaterals that stay when triples are taken -/
theorem nQ_take {V : Nat} {T : sT} (hT : sOk V T) {D : List Nat} (hD : ∀ t, t ∈ D → t < (trL T 225).length) (hT0 : sOk V (uTs T (D.map (mN T)))) (g : Nat → Bool) (hg : ∀ t, g t = true ↔ ¬ t ∈ D) : nQ (uTs T (D.map (mN T))) = sm (fun n => iv (qdB T n = true ∧ (g (n / 1225) && (g (n / 35 % 35) && (g (n % 35) && g (ql T n)))) = true)) 42875 := by
  have a := nQ_24 hT0
  have b : 24 * sm (fun n => iv (qdB T n = true ∧ (g (n / 1225) && (g (n / 35 % 35) && (g (n % 35) && g (ql T n)))) = true)) 42875 = _ := qd_24 hT g
  have c : s3 15 (fun p a c => iv (Pa (uTs T (D.map (mN T))) p a c)) = s3 15 (fun p a c => iv (Pa T p a c ∧ g (li T p a) = true ∧ g (li T p c) = true ∧ g (li T a c) = true ∧ g (li T (T p a).toNat (T p c).toNat) = true)) := s3_ext (fun p a c _ _ _ => iv_eq (by
    have q := fun u v => uTs_D hT hD u v
    generalize uTs T (D.map (mN T)) = S at q
    have w : ∀ u v, (S u v = T u v ∧ ¬ T u v = -1 ∧ g (li T u v) = true) ∨ (S u v = -1 ∧ (T u v = -1 ∨ ¬ g (li T u v) = true)) := fun u v => by
      by_cases e : T u v = -1
      · exact Or.inr ⟨(q u v).2 (Or.inl e), Or.inl e⟩
      · by_cases k : li T u v ∈ D
        · exact Or.inr ⟨(q u v).2 (Or.inr k), Or.inr (fun z => (hg _).mp z k)⟩
        · exact Or.inl ⟨(q u v).1 ⟨e, k⟩, e, (hg _).mpr k⟩
    constructor
    · rintro ⟨h1, h2, h3, h4, h5⟩
      rcases w p a with ⟨w1, w2, w3⟩ | ⟨w1, -⟩
      · rcases w p c with ⟨x1, x2, x3⟩ | ⟨x1, -⟩
        · rcases w a c with ⟨y1, y2, y3⟩ | ⟨y1, -⟩
          · rw [w1, x1, y1] at h5
            rcases w (T p a).toNat (T p c).toNat with ⟨z1, z2, z3⟩ | ⟨z1, -⟩
            · exact ⟨⟨w2, x2, y2, by rw [← w1]; exact h4, by rw [← z1]; exact h5⟩, w3, x3, y3, z3⟩
            · rw [z1] at h5
              exact absurd h5.symm y2
          · exact absurd y1 h3
        · exact absurd x1 h2
      · exact absurd w1 h1
    · rintro ⟨⟨h1, h2, h3, h4, h5⟩, g1, g2, g3, g4⟩
      have h6 : ¬ T (T p a).toNat (T p c).toNat = -1 := by rw [h5]; exact h3
      have k : ∀ u v, ¬ T u v = -1 → g (li T u v) = true → S u v = T u v := fun u v e1 e2 => by
        rcases w u v with z | z
        · exact z.1
        · rcases z.2 with z2 | z2
          · exact absurd z2 e1
          · exact absurd e2 z2
      have e1 := k p a h1 g1
      have e2 := k p c h2 g2
      have e3 := k a c h3 g3
      have e4 := k _ _ h6 g4
      refine ⟨by rw [e1]; exact h1, by rw [e2]; exact h2, by rw [e3]; exact h3, by rw [e1]; exact h4, ?_⟩
      rw [e1, e2, e3, e4]
      exact h5))
  rw [c] at a
  have d := a.trans b.symm
  omega
/-- those that a triple makes: beside two of its points, counted from the third -/
def cw (V : Nat) (T : sT) (x y z : Nat) : Nat := sm (fun a => iv (¬ T x a = -1 ∧ ¬ a = y ∧ ¬ a = z ∧ ¬ T y a = -1 ∧ T y a = T z (T x a).toNat)) V
theorem b9d : ∀ xj xk xl yj yk yl zj zk zl : Bool, ((xj || xk || xl) && ((yj || yk || yl) && ((zj || zk || zl) && (!(xj && xk) && (!(xj && xl) && (!(xk && xl) && (!(yj && yk) && (!(yj && yl) && (!(yk && yl) && (!(zj && zk) && (!(zj && zl) && (!(zk && zl) && (!(xj && yj) && (!(xj && zj) && (!(yj && zj) && (!(xk && yk) && (!(xk && zk) && (!(yk && zk) && (!(xl && yl) && (!(xl && zl) && (!(yl && zl)))))))))))))))))))))) = true → (xj && yk && zl).toNat + (xj && yl && zk).toNat + (xk && yj && zl).toNat + (xl && yj && zk).toNat + (xk && yl && zj).toNat + (xl && yk && zj).toNat = 1 := by decide +kernel
theorem b9 : ∀ xj xk xl yj yk yl zj zk zl : Bool, (xj || xk || xl) = true → (yj || yk || yl) = true → (zj || zk || zl) = true → (xj && xk) = false → (xj && xl) = false → (xk && xl) = false → (yj && yk) = false → (yj && yl) = false → (yk && yl) = false → (zj && zk) = false → (zj && zl) = false → (zk && zl) = false → (xj && yj) = false → (xj && zj) = false → (yj && zj) = false → (xk && yk) = false → (xk && zk) = false → (yk && zk) = false → (xl && yl) = false → (xl && zl) = false → (yl && zl) = false → (xj && yk && zl).toNat + (xj && yl && zk).toNat + (xk && yj && zl).toNat + (xl && yj && zk).toNat + (xk && yl && zj).toNat + (xl && yk && zj).toNat = 1 := by
  intro xj xk xl yj yk yl zj zk zl h0 h1 h2 h3 h4 h5 h6 h7 h8 h9 h10 h11 h12 h13 h14 h15 h16 h17 h18 h19 h20
  refine b9d xj xk xl yj yk yl zj zk zl ?_
  rw [h0, h1, h2, h3, h4, h5, h6, h7, h8, h9, h10, h11, h12, h13, h14, h15, h16, h17, h18, h19, h20]
  rfl
theorem iv_b {P : Prop} [Decidable P] {b : Bool} : iv (P ∧ b = true) = iv P * b.toNat := by
  cases b
  · rw [iv_f (fun z => by cases z.2)]
    rfl
  · rw [iv_eq (q := P) ⟨fun z => z.1, fun z => ⟨z, rfl⟩⟩]
    exact (Nat.mul_one _).symm
/-- quadrilaterals with one triple, by its three points -/
theorem X4_one {V : Nat} {T : sT} (hT : sOk V T) {t x y z : Nat} (ht : t < (trL T 225).length) (hx : onL T t x) (hy : onL T t y) (hz : onL T t z) (hxy : ¬ x = y) (hyz : ¬ y = z) (hxz : ¬ x = z) : s4 35 (fun i j k l => iv (X4 T i j k l ∧ i = t)) = 6 * s4 35 (fun i j k l => iv ((X4 T i j k l ∧ i = t) ∧ ((mN T j).testBit x && (mN T k).testBit y && (mN T l).testBit z) = true)) := by
  obtain ⟨s1, s2, s3', s4'⟩ := X4_sym T
  have e : s4 35 (fun i j k l => iv (X4 T i j k l ∧ i = t)) = s4 35 (fun i j k l => iv ((X4 T i j k l ∧ i = t) ∧ ((mN T j).testBit x && (mN T k).testBit y && (mN T l).testBit z) = true) + iv ((X4 T i j l k ∧ i = t) ∧ ((mN T j).testBit x && (mN T l).testBit y && (mN T k).testBit z) = true) + iv ((X4 T i k j l ∧ i = t) ∧ ((mN T k).testBit x && (mN T j).testBit y && (mN T l).testBit z) = true) + iv ((X4 T i l j k ∧ i = t) ∧ ((mN T l).testBit x && (mN T j).testBit y && (mN T k).testBit z) = true) + iv ((X4 T i k l j ∧ i = t) ∧ ((mN T k).testBit x && (mN T l).testBit y && (mN T j).testBit z) = true) + iv ((X4 T i l k j ∧ i = t) ∧ ((mN T l).testBit x && (mN T k).testBit y && (mN T j).testBit z) = true)) := s4_ext (fun i j k l _ _ _ _ => by
    by_cases h : X4 T i j k l ∧ i = t
    · obtain ⟨h, rfl⟩ := h
      have a2 := s3' _ _ _ _ h
      have a3 := s2 _ _ _ _ h
      have a4 := s2 _ _ _ _ a2
      have a5 := s3' _ _ _ _ a3
      have a6 := s3' _ _ _ _ a4
      obtain ⟨⟨bi, bj, bk, bl⟩, ⟨n12, n13, n14, n23, n24, n34⟩, -⟩ := id h
      rw [iv_b, iv_b, iv_b, iv_b, iv_b, iv_b, iv_t ⟨h, rfl⟩, iv_t ⟨a2, rfl⟩, iv_t ⟨a3, rfl⟩, iv_t ⟨a4, rfl⟩, iv_t ⟨a5, rfl⟩, iv_t ⟨a6, rfl⟩]
      simp only [Nat.one_mul]
      have o : ∀ u, onL T i u → ((mN T j).testBit u || (mN T k).testBit u || (mN T l).testBit u) = true := fun u hu => by
        rcases X4_or h hu with g | g | g
        · unfold onL at g; rw [g]; rfl
        · unfold onL at g; rw [g]; cases (mN T j).testBit u <;> rfl
        · unfold onL at g; rw [g]; cases (mN T j).testBit u <;> cases (mN T k).testBit u <;> rfl
      have an : ∀ a b : Bool, (a = true → b = true → False) → (a && b) = false := fun a b g => by
        cases a
        · rfl
        · cases b
          · rfl
          · exact (g rfl rfl).elim
      have dj : ∀ u v, onL T i u → onL T i v → ¬ u = v → ∀ s, s < (trL T 225).length → ¬ i = s → ((mN T s).testBit u && (mN T s).testBit v) = false := fun u v hu hv hne s hs hns => an _ _ (fun g1 g2 => hns (on_1 hT bi hs hne hu hv g1 g2))
      have dp : ∀ u, onL T i u → ((mN T j).testBit u && (mN T k).testBit u) = false ∧ ((mN T j).testBit u && (mN T l).testBit u) = false ∧ ((mN T k).testBit u && (mN T l).testBit u) = false := fun u hu => ⟨an _ _ (fun g1 g2 => X4_no3 hT h hu g1 g2), an _ _ (fun g1 g2 => X4_no3 hT a2 hu g1 g2), an _ _ (fun g1 g2 => X4_no3 hT a5 hu g1 g2)⟩
      exact (b9 _ _ _ _ _ _ _ _ _ (o x hx) (o y hy) (o z hz) (dp x hx).1 (dp x hx).2.1 (dp x hx).2.2 (dp y hy).1 (dp y hy).2.1 (dp y hy).2.2 (dp z hz).1 (dp z hz).2.1 (dp z hz).2.2 (dj x y hx hy hxy j bj n12) (dj x z hx hz hxz j bj n12) (dj y z hy hz hyz j bj n12) (dj x y hx hy hxy k bk n13) (dj x z hx hz hxz k bk n13) (dj y z hy hz hyz k bk n13) (dj x y hx hy hxy l bl n14) (dj x z hx hz hxz l bl n14) (dj y z hy hz hyz l bl n14)).symm
    · rw [iv_f h, iv_f (fun g => h g.1), iv_f (fun g => h ⟨s3' _ _ _ _ g.1.1, g.1.2⟩), iv_f (fun g => h ⟨s2 _ _ _ _ g.1.1, g.1.2⟩), iv_f (fun g => h ⟨s3' _ _ _ _ (s2 _ _ _ _ g.1.1), g.1.2⟩), iv_f (fun g => h ⟨s2 _ _ _ _ (s3' _ _ _ _ g.1.1), g.1.2⟩), iv_f (fun g => h ⟨s3' _ _ _ _ (s2 _ _ _ _ (s3' _ _ _ _ g.1.1)), g.1.2⟩)])
  have p1 : s4 35 (fun i j k l => iv ((X4 T i j l k ∧ i = t) ∧ ((mN T j).testBit x && (mN T l).testBit y && (mN T k).testBit z) = true)) = s4 35 (fun i j k l => iv ((X4 T i j k l ∧ i = t) ∧ ((mN T j).testBit x && (mN T k).testBit y && (mN T l).testBit z) = true)) := s4_34 (fun i j k l => iv ((X4 T i j k l ∧ i = t) ∧ ((mN T j).testBit x && (mN T k).testBit y && (mN T l).testBit z) = true))
  have p2 : s4 35 (fun i j k l => iv ((X4 T i k j l ∧ i = t) ∧ ((mN T k).testBit x && (mN T j).testBit y && (mN T l).testBit z) = true)) = s4 35 (fun i j k l => iv ((X4 T i j k l ∧ i = t) ∧ ((mN T j).testBit x && (mN T k).testBit y && (mN T l).testBit z) = true)) := s4_23 (fun i j k l => iv ((X4 T i j k l ∧ i = t) ∧ ((mN T j).testBit x && (mN T k).testBit y && (mN T l).testBit z) = true))
  have p3 : s4 35 (fun i j k l => iv ((X4 T i l j k ∧ i = t) ∧ ((mN T l).testBit x && (mN T j).testBit y && (mN T k).testBit z) = true)) = s4 35 (fun i j k l => iv ((X4 T i j k l ∧ i = t) ∧ ((mN T j).testBit x && (mN T k).testBit y && (mN T l).testBit z) = true)) :=
    (s4_34 (fun i j k l => iv ((X4 T i k j l ∧ i = t) ∧ ((mN T k).testBit x && (mN T j).testBit y && (mN T l).testBit z) = true))).trans p2
  have p4 : s4 35 (fun i j k l => iv ((X4 T i k l j ∧ i = t) ∧ ((mN T k).testBit x && (mN T l).testBit y && (mN T j).testBit z) = true)) = s4 35 (fun i j k l => iv ((X4 T i j k l ∧ i = t) ∧ ((mN T j).testBit x && (mN T k).testBit y && (mN T l).testBit z) = true)) :=
    (s4_23 (fun i j k l => iv ((X4 T i j l k ∧ i = t) ∧ ((mN T j).testBit x && (mN T l).testBit y && (mN T k).testBit z) = true))).trans p1
  have p5 : s4 35 (fun i j k l => iv ((X4 T i l k j ∧ i = t) ∧ ((mN T l).testBit x && (mN T k).testBit y && (mN T j).testBit z) = true)) = s4 35 (fun i j k l => iv ((X4 T i j k l ∧ i = t) ∧ ((mN T j).testBit x && (mN T k).testBit y && (mN T l).testBit z) = true)) :=
    (s4_34 (fun i j k l => iv ((X4 T i k l j ∧ i = t) ∧ ((mN T k).testBit x && (mN T l).testBit y && (mN T j).testBit z) = true))).trans p4
  rw [e, s4_add, s4_add, s4_add, s4_add, s4_add, p1, p2, p3, p4, p5]
  omega
/-- quadrilaterals with one triple -/
theorem X4_has {V : Nat} {T : sT} (hT : sOk V T) {t : Nat} : 24 * sm (fun n => iv (qdB T n = true ∧ (decide (n / 1225 = t) || (decide (n / 35 % 35 = t) || (decide (n % 35 = t) || decide (ql T n = t)))) = true)) 42875 = 4 * s4 35 (fun i j k l => iv (X4 T i j k l ∧ i = t)) := by
  obtain ⟨s1, s2, s3', s4'⟩ := X4_sym T
  have C : sm (fun n => iv (qdB T n = true ∧ (decide (n / 1225 = t) || (decide (n / 35 % 35 = t) || (decide (n % 35 = t) || decide (ql T n = t)))) = true)) 42875 = s4 35 (fun i j k l => iv ((X4 T i j k l ∧ i < j ∧ j < k ∧ k < l) ∧ (decide (i = t) || (decide (j = t) || (decide (k = t) || decide (l = t)))) = true)) := qd_sum hT (fun i j k l => decide (i = t) || (decide (j = t) || (decide (k = t) || decide (l = t))))
  have hs : sym4 (fun i j k l => X4 T i j k l ∧ (i = t ∨ j = t ∨ k = t ∨ l = t)) := ⟨fun i j k l h => ⟨s1 _ _ _ _ h.1, by have := h.2; omega⟩, fun i j k l h => ⟨s2 _ _ _ _ h.1, by have := h.2; omega⟩, fun i j k l h => ⟨s3' _ _ _ _ h.1, by have := h.2; omega⟩, fun i j k l h => s4' _ _ _ _ h.1⟩
  have B := sym_24 (n := 35) hs
  have D : s4 35 (fun i j k l => iv ((X4 T i j k l ∧ i < j ∧ j < k ∧ k < l) ∧ (decide (i = t) || (decide (j = t) || (decide (k = t) || decide (l = t)))) = true)) = s4 35 (fun i j k l => iv ((X4 T i j k l ∧ (i = t ∨ j = t ∨ k = t ∨ l = t)) ∧ i < j ∧ j < k ∧ k < l)) := s4_ext (fun i j k l _ _ _ _ => iv_eq (by
    simp only [Bool.or_eq_true, decide_eq_true_eq]
    exact ⟨fun z => ⟨⟨z.1.1, z.2⟩, z.1.2⟩, fun z => ⟨⟨z.1.1, z.2⟩, z.1.2⟩⟩))
  have E : s4 35 (fun i j k l => iv (X4 T i j k l ∧ (i = t ∨ j = t ∨ k = t ∨ l = t))) = s4 35 (fun i j k l => iv (X4 T i j k l ∧ i = t) + iv (X4 T i j k l ∧ j = t) + iv (X4 T i j k l ∧ k = t) + iv (X4 T i j k l ∧ l = t)) := s4_ext (fun i j k l _ _ _ _ => by
    by_cases h : X4 T i j k l
    · have d := s4' _ _ _ _ h
      rw [← iv_or (by omega), ← iv_or (by omega), ← iv_or (by omega)]
      exact iv_eq (by
        constructor
        · rintro ⟨-, g⟩
          rcases g with g | g | g | g
          · exact Or.inl (Or.inl (Or.inl ⟨h, g⟩))
          · exact Or.inl (Or.inl (Or.inr ⟨h, g⟩))
          · exact Or.inl (Or.inr ⟨h, g⟩)
          · exact Or.inr ⟨h, g⟩
        · rintro (((g | g) | g) | g)
          · exact ⟨h, Or.inl g.2⟩
          · exact ⟨h, Or.inr (Or.inl g.2)⟩
          · exact ⟨h, Or.inr (Or.inr (Or.inl g.2))⟩
          · exact ⟨h, Or.inr (Or.inr (Or.inr g.2))⟩)
    · rw [iv_f (fun g => h g.1), iv_f (fun g => h g.1), iv_f (fun g => h g.1), iv_f (fun g => h g.1), iv_f (fun g => h g.1)])
  have q1 : s4 35 (fun i j k l => iv (X4 T i j k l ∧ j = t)) = s4 35 (fun i j k l => iv (X4 T i j k l ∧ i = t)) := (s4_ext (fun i j k l _ _ _ _ => iv_eq ⟨fun z => ⟨s1 _ _ _ _ z.1, z.2⟩, fun z => ⟨s1 _ _ _ _ z.1, z.2⟩⟩)).trans (s4_12 (fun i j k l => iv (X4 T i j k l ∧ i = t)))
  have q2 : s4 35 (fun i j k l => iv (X4 T i j k l ∧ k = t)) = s4 35 (fun i j k l => iv (X4 T i j k l ∧ i = t)) := ((s4_ext (fun i j k l _ _ _ _ => iv_eq ⟨fun z => ⟨s2 _ _ _ _ z.1, z.2⟩, fun z => ⟨s2 _ _ _ _ z.1, z.2⟩⟩)).trans (s4_23 (fun i j k l => iv (X4 T i j k l ∧ j = t)))).trans q1
  have q3 : s4 35 (fun i j k l => iv (X4 T i j k l ∧ l = t)) = s4 35 (fun i j k l => iv (X4 T i j k l ∧ i = t)) := ((s4_ext (fun i j k l _ _ _ _ => iv_eq ⟨fun z => ⟨s3' _ _ _ _ z.1, z.2⟩, fun z => ⟨s3' _ _ _ _ z.1, z.2⟩⟩)).trans (s4_34 (fun i j k l => iv (X4 T i j k l ∧ k = t)))).trans q2
  rw [s4_add, s4_add, s4_add, q1, q2, q3] at E
  have F := (congrArg (fun x => 24 * x) (C.trans D)).trans (B.symm.trans E)
  have F : 24 * sm (fun n => iv (qdB T n = true ∧ (decide (n / 1225 = t) || (decide (n / 35 % 35 = t) || (decide (n % 35 = t) || decide (ql T n = t)))) = true)) 42875 = _ := F
  rw [F]
  omega
/-- one triple put: so many quadrilaterals more as it makes -/
theorem X4_cw {V : Nat} {T : sT} (hT : sOk V T) {x y z : Nat} (e : T x y = (z : Int)) : s4 35 (fun i j k l => iv ((X4 T i j k l ∧ i = li T x y) ∧ ((mN T j).testBit x && (mN T k).testBit y && (mN T l).testBit z) = true)) = cw V T x y z := by
  have hne : ¬ T x y = -1 := by omega
  have hV := hT.2.1
  obtain ⟨w, ew, ew2, lx, ly, lz, dxy, dxw, dyw, lt, em, o1, o2, o3⟩ := li_s hT hne
  have hw : w = z := by omega
  subst hw
  have A := Pa_sumG hT (fun i j k l => decide (i = li T x y) && ((mN T j).testBit x && (mN T k).testBit y && (mN T l).testBit w))
  have B : s4 35 (fun i j k l => iv ((X4 T i j k l ∧ i = li T x y) ∧ ((mN T j).testBit x && (mN T k).testBit y && (mN T l).testBit w) = true)) = s4 35 (fun i j k l => iv (X4 T i j k l ∧ (decide (i = li T x y) && ((mN T j).testBit x && (mN T k).testBit y && (mN T l).testBit w)) = true)) := s4_ext (fun i j k l _ _ _ _ => iv_eq (by
    simp only [Bool.and_eq_true, decide_eq_true_eq]
    exact ⟨fun z => ⟨z.1.1, z.1.2, z.2⟩, fun z => ⟨⟨z.1, z.2.1⟩, z.2.2⟩⟩))
  have C : s3 15 (fun p a c => iv (Pa T p a c ∧ (decide (li T p a = li T x y) && ((mN T (li T p c)).testBit x && (mN T (li T a c)).testBit y && (mN T (li T (T p a).toNat (T p c).toNat)).testBit w)) = true)) = sm (fun c => iv (Pa T x y c)) 15 := by
    unfold s3
    refine sm_one (k := x) (by omega) (sm_one (k := y) (by omega) (sm_ext 15 (fun c _ => iv_eq (by
      constructor
      · exact fun z => z.1
      · intro h
        obtain ⟨-, h2, h3, h4, h5⟩ := id h
        obtain ⟨-, -, -, -, -, -, -, -, -, -, -, u1, -, -⟩ := li_s hT h2
        obtain ⟨-, -, -, -, -, -, -, -, -, -, -, u2, -, -⟩ := li_s hT h3
        obtain ⟨-, -, -, -, -, -, -, -, -, -, -, u3, -, -⟩ := li_s hT (u := (T x y).toNat) (v := (T x c).toNat) (by rw [h5]; exact h3)
        rw [ew2] at u3
        unfold onL at u1 u2 u3
        rw [ew2]
        refine ⟨h, ?_⟩
        rw [decide_eq_true rfl, u1, u2, u3]
        rfl))) (fun a ha hne2 => sm_none (fun c _ => iv_f (fun z => hne2 ?_)))) (fun p hp hne2 => sm_none (fun a _ => sm_none (fun c _ => iv_f (fun z => hne2 ?_))))
    · obtain ⟨z1, z2⟩ := z
      simp only [Bool.and_eq_true, decide_eq_true_eq] at z2
      obtain ⟨f1, ⟨f2, f3⟩, -⟩ := z2
      obtain ⟨⟨x1, x2, x3, x4⟩, ⟨n12, n13, n14, n23, n24, n34⟩, -⟩ := Pa_X4 hT z1
      obtain ⟨-, -, -, -, -, -, -, -, -, -, -, v1, v2, -⟩ := li_s hT z1.1
      obtain ⟨-, -, -, -, -, -, -, -, -, -, -, v3, -, -⟩ := li_s hT z1.2.2.1
      by_cases g : a = y
      · exact g
      · exact absurd (on_1 hT x1 x3 g v2 (by rw [f1]; exact o2) v3 f3) n13
    · obtain ⟨z1, z2⟩ := z
      simp only [Bool.and_eq_true, decide_eq_true_eq] at z2
      obtain ⟨f1, ⟨f2, f3⟩, -⟩ := z2
      obtain ⟨⟨x1, x2, x3, x4⟩, ⟨n12, n13, n14, n23, n24, n34⟩, -⟩ := Pa_X4 hT z1
      obtain ⟨-, -, -, -, -, -, -, -, -, -, -, v1, v2, -⟩ := li_s hT z1.1
      obtain ⟨-, -, -, -, -, -, -, -, -, -, -, v3, -, -⟩ := li_s hT z1.2.1
      by_cases g : p = x
      · exact g
      · exact absurd (on_1 hT x1 x2 g v1 (by rw [f1]; exact o1) v3 f2) n12
  have D : sm (fun c => iv (Pa T x y c)) 15 = cw V T x y w := by
    rw [show 15 = V + (15 - V) by omega, sm_split]
    have e0 : sm (fun j => iv (Pa T x y (V + j))) (15 - V) = 0 := sm_none (fun j _ => iv_f (fun z => by
      obtain ⟨-, -, -, -, l5, -⟩ := li_s hT z.2.1
      omega))
    rw [e0, Nat.add_zero]
    unfold cw
    refine sm_ext V (fun c _ => iv_eq ⟨fun z => ?_, fun z => ?_⟩)
    · obtain ⟨z1, z2, z3, z4, z5⟩ := z
      rw [ew2] at z5
      obtain ⟨-, -, -, -, -, -, d, -⟩ := li_s hT z3
      exact ⟨z2, fun q => d q.symm, by omega, z3, z5.symm⟩
    · obtain ⟨z1, z2, z3, z4, z5⟩ := z
      refine ⟨hne, z1, z4, by omega, ?_⟩
      rw [ew2]
      exact z5.symm
  exact B.trans (A.symm.trans (C.trans D))
theorem nQ_put {V : Nat} {T : sT} (hT : sOk V T) {x y z : Nat} (hx : x < V) (hy : y < V) (hz : z < V) (hxy : ¬ x = y) (hyz : ¬ y = z) (hxz : ¬ x = z) (hf : sFree T x y z) : nQ (sPut T x y z) = nQ T + cw V (sPut T x y z) x y z := by
  have hV := hT.2.1
  have hP := sOk_put hT hx hy hz hxy hyz hxz hf
  have ez : sPut T x y z x y = (z : Int) := by
    unfold sPut
    rw [if_pos ⟨hxy, by simp, by simp⟩]
    omega
  have hne : ¬ sPut T x y z x y = -1 := by omega
  obtain ⟨w, ew, ew2, -, -, -, d1, d2, d3, lt, em, o1, o2, o3⟩ := li_s hP hne
  have hw : w = z := by omega
  subst hw
  have eT : uTs (sPut T x y w) ([li (sPut T x y w) x y].map (mN (sPut T x y w))) = T := by
    show uTake (sPut T x y w) (mN (sPut T x y w) (li (sPut T x y w) x y)) = T
    rw [em, uTake_3]
    funext u v
    unfold sTake
    by_cases g : sPr x y w u v
    · rw [if_pos g]
      have sy : ∀ u v, T u v = -1 → T v u = -1 := fun u v e => sy_free hT e
      obtain ⟨f1, f2, f3⟩ := hf
      obtain ⟨g0, g1, g2⟩ := g
      rcases g1 with rfl | rfl | rfl <;> rcases g2 with rfl | rfl | rfl <;> first | exact absurd rfl g0 | exact f1.symm | exact f2.symm | exact f3.symm | exact (sy _ _ f1).symm | exact (sy _ _ f2).symm | exact (sy _ _ f3).symm
    · rw [if_neg g]
      unfold sPut
      rw [if_neg g]
  have a := nQ_take hP (D := [li (sPut T x y w) x y]) (fun t ht => by rw [List.mem_singleton] at ht; rw [ht]; exact lt) (by rw [eT]; exact hT) (fun t => !decide (t = li (sPut T x y w) x y)) (fun t => by rw [List.mem_singleton, Bool.not_eq_true', decide_eq_false_iff_not])
  rw [eT] at a
  have b := X4_has hP (t := li (sPut T x y w) x y)
  rw [X4_one hP lt o1 o2 o3 d1 d3 d2, X4_cw hP ez] at b
  have c : nQ (sPut T x y w) = sm (fun n => iv (qdB (sPut T x y w) n = true ∧ (!decide (n / 1225 = li (sPut T x y w) x y) && (!decide (n / 35 % 35 = li (sPut T x y w) x y) && (!decide (n % 35 = li (sPut T x y w) x y) && !decide (ql (sPut T x y w) n = li (sPut T x y w) x y)))) = true) + iv (qdB (sPut T x y w) n = true ∧ (decide (n / 1225 = li (sPut T x y w) x y) || (decide (n / 35 % 35 = li (sPut T x y w) x y) || (decide (n % 35 = li (sPut T x y w) x y) || decide (ql (sPut T x y w) n = li (sPut T x y w) x y)))) = true)) 42875 := by
    show (fL (qdB (sPut T x y w)) 42875).length = _
    rw [fL_sm]
    refine sm_ext 42875 (fun n _ => ?_)
    rw [iv_b, iv_b]
    generalize decide (n / 1225 = li (sPut T x y w) x y) = b1
    generalize decide (n / 35 % 35 = li (sPut T x y w) x y) = b2
    generalize decide (n % 35 = li (sPut T x y w) x y) = b3
    generalize decide (ql (sPut T x y w) n = li (sPut T x y w) x y) = b4
    cases b1 <;> cases b2 <;> cases b3 <;> cases b4 <;> simp
  rw [sm_add, ← a] at c
  omega
