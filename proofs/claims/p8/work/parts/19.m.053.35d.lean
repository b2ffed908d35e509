/-! ===== quadrilaterals by their points (pure) ===== -/
/-- the number of the triple of a covered pair -/
def li (T : sT) (u v : Nat) : Nat := (trL T (cd T u v)).length
theorem li_s {V : Nat} {T : sT} (hT : sOk V T) {u v : Nat} (h : ¬ T u v = -1) : ∃ w : Nat, T u v = (w : Int) ∧ (T u v).toNat = w ∧ u < V ∧ v < V ∧ w < V ∧ ¬ u = v ∧ ¬ u = w ∧ ¬ v = w ∧ li T u v < (trL T 225).length ∧ mN T (li T u v) = m3 u v w ∧ onL T (li T u v) u ∧ onL T (li T u v) v ∧ onL T (li T u v) w := by
  obtain ⟨w, ew, l1, l2, l3, d1, d2, d3, -⟩ := sOk_at hT rfl h
  obtain ⟨g1, g2, -⟩ := cd_of hT h
  obtain ⟨k1, k2⟩ := trL_ix g1 (224 - cd T u v)
  rw [show cd T u v + 1 + (224 - cd T u v) = 225 by omega] at k1 k2
  have e : mN T (li T u v) = m3 u v w := by
    unfold mN li
    rw [k2]
    exact mk_cd hT ew
  refine ⟨w, ew, by rw [ew, Int.toNat_natCast], l1, l2, l3, d1, d2, d3, k1, e, ?_, ?_, ?_⟩
  · unfold onL; rw [e, m3_test]; exact decide_eq_true (by simp)
  · unfold onL; rw [e, m3_test]; exact decide_eq_true (by simp)
  · unfold onL; rw [e, m3_test]; exact decide_eq_true (by simp)
/-- p, with a and c beside it, is a point of a quadrilateral -/
abbrev Pa (T : sT) (p a c : Nat) : Prop := ¬ T p a = -1 ∧ ¬ T p c = -1 ∧ ¬ T a c = -1 ∧ ¬ T p a = (c : Int) ∧ T (T p a).toNat (T p c).toNat = T a c
theorem xr_pts {p a b c d e : Nat} (h1 : ¬ p = a) (h2 : ¬ p = b) (h3 : ¬ a = b) (h4 : ¬ p = c) (h5 : ¬ p = d) (h6 : ¬ c = d) (h7 : ¬ a = c) (h8 : ¬ a = e) (h9 : ¬ c = e) (h10 : ¬ b = d) (h11 : ¬ b = e) (h12 : ¬ d = e) (h13 : ¬ b = c) (h14 : ¬ a = d) (h15 : ¬ p = e) : m3 p a b ^^^ m3 p c d ^^^ m3 a c e = m3 b d e := by
  apply Nat.eq_of_testBit_eq
  intro u
  rw [Nat.testBit_xor, Nat.testBit_xor, m3_test, m3_test, m3_test, m3_test]
  by_cases g1 : u = p
  · subst g1; simp [*]
  · by_cases g2 : u = a
    · subst g2; simp [*]
    · by_cases g3 : u = b
      · subst g3; simp [*, Ne.symm h3]
      · by_cases g4 : u = c
        · subst g4; simp [*]
        · by_cases g5 : u = d
          · subst g5; simp [*]
          · by_cases g6 : u = e
            · subst g6; simp [*]
            · simp [*]
theorem Pa_X4 {V : Nat} {T : sT} (hT : sOk V T) {p a c : Nat} (h : Pa T p a c) : X4 T (li T p a) (li T p c) (li T a c) (li T (T p a).toNat (T p c).toNat) := by
  obtain ⟨h1, h2, h3, h4, h5⟩ := h
  obtain ⟨b, eb, eb2, -, -, -, b1, b2, b3, bi, mi, i1, i2, i3⟩ := li_s hT h1
  obtain ⟨d, ed, ed2, -, -, -, d1, d2, d3, bj, mj, j1, j2, j3⟩ := li_s hT h2
  obtain ⟨e, ee, ee2, -, -, -, e1, e2, e3, bk, mk, k1, k2, k3⟩ := li_s hT h3
  rw [eb2, ed2] at h5 ⊢
  obtain ⟨f, ef, ef2, -, -, -, f1, f2, f3, bl, ml, q1, q2, q3⟩ := li_s hT (u := b) (v := d) (by omega)
  have hfe : f = e := by omega
  subst hfe
  have nbc : ¬ b = c := by omega
  have n12 : ¬ li T p a = li T p c := fun z => by
    rw [← z] at j2
    have := on_3 hT bi i1 i2 j2 b1 d1 e1
    omega
  have n13 : ¬ li T p a = li T a c := fun z => by
    rw [← z] at k2
    have := on_3 hT bi i1 i2 k2 b1 d1 e1
    omega
  have n14 : ¬ li T p a = li T b d := fun z => by
    rw [← z] at q2
    exact n12 (on_1 hT bi bj d2 i1 q2 j1 j3)
  have n23 : ¬ li T p c = li T a c := fun z => by
    rw [← z] at k1
    exact n12 (on_1 hT bi bj b1 i1 i2 j1 k1)
  have n24 : ¬ li T p c = li T b d := fun z => by
    rw [← z] at q1
    exact n12 (on_1 hT bi bj b2 i1 i3 j1 q1)
  have n34 : ¬ li T a c = li T b d := fun z => by
    rw [← z] at q1
    exact n13 (on_1 hT bi bk b3 i2 i3 k1 q1)
  have nad : ¬ a = d := fun z => by
    rw [← z] at j3
    exact n12 (on_1 hT bi bj b1 i1 i2 j1 j3)
  have npe : ¬ p = f := fun z => by
    rw [← z] at k3
    exact n13 (on_1 hT bi bk b1 i1 i2 k3 k1)
  refine ⟨⟨bi, bj, bk, bl⟩, ⟨n12, n13, n14, n23, n24, n34⟩, ?_⟩
  rw [mi, mj, mk, ml]
  exact xr_pts b1 b2 b3 d1 d2 d3 e1 e2 e3 f1 f2 f3 nbc nad npe
theorem sm_s4 {n : Nat} (f : Nat → Nat → Nat → Nat → Nat → Nat) (m : Nat) : sm (fun p => s4 n (f p)) m = s4 n (fun i j k l => sm (fun p => f p i j k l) m) := by
  unfold s4 s3
  rw [sm_swap]
  refine sm_ext n (fun i _ => ?_)
  rw [sm_swap]
  refine sm_ext n (fun j _ => ?_)
  rw [sm_swap]
  refine sm_ext n (fun k _ => ?_)
  rw [sm_swap]
theorem s3_s4 {n m : Nat} (f : Nat → Nat → Nat → Nat → Nat → Nat → Nat → Nat) : s3 m (fun p a c => s4 n (f p a c)) = s4 n (fun i j k l => s3 m (fun p a c => f p a c i j k l)) := by
  unfold s3
  rw [sm_ext m (fun p _ => (sm_ext m (fun a _ => sm_s4 (f p a) m)).trans (sm_s4 (fun a i j k l => sm (fun c => f p a c i j k l) m) m)), sm_s4]
theorem s4_one {n : Nat} {f : Nat → Nat → Nat → Nat → Nat} {i0 j0 k0 l0 v : Nat} (hi : i0 < n) (hj : j0 < n) (hk : k0 < n) (hl : l0 < n) (h : f i0 j0 k0 l0 = v) (h0 : ∀ i j k l, ¬ (i = i0 ∧ j = j0 ∧ k = k0 ∧ l = l0) → f i j k l = 0) : s4 n f = v := by
  unfold s4 s3
  refine sm_one hi (sm_one hj (sm_one hk (sm_one hl h (fun l _ g => h0 _ _ _ _ (by omega))) (fun k _ g => sm_none (fun l _ => h0 _ _ _ _ (by omega)))) (fun j _ g => sm_none (fun k _ => sm_none (fun l _ => h0 _ _ _ _ (by omega))))) (fun i _ g => sm_none (fun j _ => sm_none (fun k _ => sm_none (fun l _ => h0 _ _ _ _ (by omega)))))
theorem s3_one {n : Nat} {f : Nat → Nat → Nat → Nat} {i0 j0 k0 v : Nat} (hi : i0 < n) (hj : j0 < n) (hk : k0 < n) (h : f i0 j0 k0 = v) (h0 : ∀ i j k, i < n → j < n → k < n → ¬ (i = i0 ∧ j = j0 ∧ k = k0) → f i j k = 0) : s3 n f = v := by
  unfold s3
  refine sm_one hi (sm_one hj (sm_one hk h (fun k g1 g => h0 _ _ _ hi hj g1 (by omega))) (fun j g1 g => sm_none (fun k g2 => h0 _ _ _ hi g1 g2 (by omega)))) (fun i g1 g => sm_none (fun j g2 => sm_none (fun k g3 => h0 _ _ _ g1 g2 g3 (by omega))))
theorem s3_none {n : Nat} {f : Nat → Nat → Nat → Nat} (h0 : ∀ i j k, i < n → j < n → k < n → f i j k = 0) : s3 n f = 0 := by
  unfold s3
  exact sm_none (fun i g1 => sm_none (fun j g2 => sm_none (fun k g3 => h0 _ _ _ g1 g2 g3)))
/-- as many points with two beside them as fours of triples in all orders -/
theorem Pa_sum {V : Nat} {T : sT} (hT : sOk V T) (g : Nat → Bool) : s3 15 (fun p a c => iv (Pa T p a c ∧ g (li T p a) = true ∧ g (li T p c) = true ∧ g (li T a c) = true ∧ g (li T (T p a).toNat (T p c).toNat) = true)) = s4 35 (fun i j k l => iv (X4 T i j k l ∧ g i = true ∧ g j = true ∧ g k = true ∧ g l = true)) := by
  have hV := hT.2.1
  have l35 := trL_35 hT 225
  have a1 : ∀ p a c, iv (Pa T p a c ∧ g (li T p a) = true ∧ g (li T p c) = true ∧ g (li T a c) = true ∧ g (li T (T p a).toNat (T p c).toNat) = true) = s4 35 (fun i j k l => iv ((Pa T p a c ∧ g i = true ∧ g j = true ∧ g k = true ∧ g l = true) ∧ i = li T p a ∧ j = li T p c ∧ k = li T a c ∧ l = li T (T p a).toNat (T p c).toNat)) := by
    intro p a c
    by_cases h : Pa T p a c
    · obtain ⟨⟨x1, x2, x3, x4⟩, -⟩ := Pa_X4 hT h
      refine (s4_one (i0 := li T p a) (j0 := li T p c) (k0 := li T a c) (l0 := li T (T p a).toNat (T p c).toNat) (by omega) (by omega) (by omega) (by omega) (iv_eq ⟨fun z => z.1, fun z => ⟨z, rfl, rfl, rfl, rfl⟩⟩) (fun i j k l hn => iv_f (fun z => hn z.2))).symm
    · rw [iv_f (fun z => h z.1)]
      unfold s4
      exact (sm_none (fun i _ => s3_none (fun j k l _ _ _ => iv_f (fun z => h z.1.1)))).symm
  have a2 : ∀ i j k l, s3 15 (fun p a c => iv ((Pa T p a c ∧ g i = true ∧ g j = true ∧ g k = true ∧ g l = true) ∧ i = li T p a ∧ j = li T p c ∧ k = li T a c ∧ l = li T (T p a).toNat (T p c).toNat)) = iv (X4 T i j k l ∧ g i = true ∧ g j = true ∧ g k = true ∧ g l = true) := by
    intro i j k l
    by_cases h : X4 T i j k l
    · obtain ⟨p, a, b, c, d, e, ⟨p1, a1, b1⟩, ⟨p2, c1, d1⟩, ⟨a2, c2, e1⟩, ⟨b2, d2, e2⟩, t1, t2, t3, t4, nbc⟩ := X4_pts hT h
      obtain ⟨⟨bi, bj, bk, bl⟩, ⟨n12, n13, n14, n23, n24, n34⟩, -⟩ := id h
      have hP : Pa T p a c := ⟨by omega, by omega, by omega, by omega, by rw [t1, t2, Int.toNat_natCast, Int.toNat_natCast, t4, t3]⟩
      obtain ⟨b', eb, eb2, lp, la, -, q1, q2, q3, ci, -, i1, i2, i3⟩ := li_s hT hP.1
      obtain ⟨d', ed, ed2, -, lc, -, r1, r2, r3, cj, -, j1, j2, j3⟩ := li_s hT hP.2.1
      obtain ⟨e', ee, ee2, -, -, -, s1, s2, s3', ck, -, k1, k2, k3⟩ := li_s hT hP.2.2.1
      have hbd : ¬ T b d = -1 := by omega
      obtain ⟨f', ef, ef2, -, -, -, v1, v2, v3, cl, -, m1, m2, m3'⟩ := li_s hT hbd
      have ei : i = li T p a := on_1 hT bi ci q1 p1 a1 i1 i2
      have ej : j = li T p c := on_1 hT bj cj r1 p2 c1 j1 j2
      have ek : k = li T a c := on_1 hT bk ck s1 a2 c2 k1 k2
      have el : l = li T (T p a).toNat (T p c).toNat := by
        rw [t1, t2, Int.toNat_natCast, Int.toNat_natCast]
        exact on_1 hT bl cl v1 b2 d2 m1 m2
      refine s3_one (i0 := p) (j0 := a) (k0 := c) (by omega) (by omega) (by omega) (iv_eq ⟨fun z => ⟨h, z.1.2⟩, fun z => ⟨⟨hP, z.2⟩, ei, ej, ek, el⟩⟩) (fun p' a' c' _ _ _ hn => iv_f (fun z => hn ?_))
      obtain ⟨⟨w0, -⟩, w1, w2, w3, -⟩ := z
      obtain ⟨-, -, -, -, -, -, -, -, -, -, -, y1, y2, -⟩ := li_s hT w0.1
      obtain ⟨-, -, -, -, -, -, -, -, -, -, -, y3, y4, -⟩ := li_s hT w0.2.1
      obtain ⟨-, -, -, -, -, -, -, -, -, -, -, y5, y6, -⟩ := li_s hT w0.2.2.1
      rw [← w1] at y1 y2
      rw [← w2] at y3 y4
      rw [← w3] at y5 y6
      refine ⟨?_, ?_, ?_⟩
      · by_cases z : p' = p
        · exact z
        · exact absurd (on_1 hT bi bj z y1 p1 y3 p2) n12
      · by_cases z : a' = a
        · exact z
        · exact absurd (on_1 hT bi bk z y2 a1 y5 a2) n13
      · by_cases z : c' = c
        · exact z
        · exact absurd (on_1 hT bj bk z y4 c1 y6 c2) n23
    · rw [iv_f (fun z => h z.1)]
      refine s3_none (fun p a c _ _ _ => iv_f (fun z => h ?_))
      obtain ⟨⟨w0, -⟩, rfl, rfl, rfl, rfl⟩ := z
      exact Pa_X4 hT w0
  rw [s3_ext (fun p a c _ _ _ => a1 p a c), s3_s4]
  exact s4_ext (fun i j k l _ _ _ _ => a2 i j k l)
