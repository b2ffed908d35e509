/-! ===== quadrilaterals: four triples, six points ===== -/
def me (B : Nat → Nat × Nat × Nat) (t u : Nat) : Prop := u = (B t).1 ∨ u = (B t).2.1 ∨ u = (B t).2.2
/-- four triples, no two with a pair in common; each point in an even number of them -/
def Qd (B : Nat → Nat × Nat × Nat) : Prop := (∀ t, t < 4 → ¬ (B t).1 = (B t).2.1 ∧ ¬ (B t).2.1 = (B t).2.2 ∧ ¬ (B t).1 = (B t).2.2) ∧
  (∀ t s u v, t < 4 → s < 4 → ¬ u = v → me B t u → me B t v → me B s u → me B s v → t = s) ∧
  (∀ t u, t < 4 → me B t u → ∃ s, s < 4 ∧ ¬ s = t ∧ me B s u ∧ ∀ w, w < 4 → ¬ w = t → ¬ w = s → (me B w u → ∀ x, x < 4 → me B x u))
theorem qd_two {B : Nat → Nat × Nat × Nat} (h : Qd B) {t u : Nat} (ht : t < 4) (hu : me B t u) : ∃ s, s < 4 ∧ ¬ s = t ∧ me B s u ∧ ∀ w, w < 4 → me B w u → w = t ∨ w = s := by
  obtain ⟨h1, h2, h3⟩ := h
  obtain ⟨s, s1, s2, s3, s4⟩ := h3 t u ht hu
  refine ⟨s, s1, s2, s3, fun w hw hwu => Classical.byContradiction (fun hn => ?_)⟩
  rw [not_or] at hn
  have all := s4 w hw hn.1 hn.2 hwu
  -- another point of t
  obtain ⟨v, hv, huv⟩ : ∃ v, me B t v ∧ ¬ u = v := by
    have d := h1 t ht
    rcases hu with e | e | e
    · exact ⟨(B t).2.1, Or.inr (Or.inl rfl), by rw [e]; exact d.1⟩
    · exact ⟨(B t).2.2, Or.inr (Or.inr rfl), by rw [e]; exact d.2.1⟩
    · exact ⟨(B t).1, Or.inl rfl, by rw [e]; exact fun z => d.2.2 z.symm⟩
  obtain ⟨s', p1, p2, p3, -⟩ := h3 t v ht hv
  exact p2 (h2 t s' u v ht p1 huv hu hv (all s' p1) p3).symm
theorem qd_com {B : Nat → Nat × Nat × Nat} (h : Qd B) {t s : Nat} (ht : t < 4) (hs : s < 4) (hts : ¬ s = t) : ∃ u, me B t u ∧ me B s u := by
  have d := h.1 t ht
  obtain ⟨x1, a1, a2, a3, a4⟩ := qd_two h ht (u := (B t).1) (Or.inl rfl)
  obtain ⟨x2, b1, b2, b3, b4⟩ := qd_two h ht (u := (B t).2.1) (Or.inr (Or.inl rfl))
  obtain ⟨x3, c1, c2, c3, c4⟩ := qd_two h ht (u := (B t).2.2) (Or.inr (Or.inr rfl))
  have n12 : ¬ x1 = x2 := fun z => a2 (h.2.1 t x1 _ _ ht a1 d.1 (Or.inl rfl) (Or.inr (Or.inl rfl)) a3 (by rw [z]; exact b3)).symm
  have n23 : ¬ x2 = x3 := fun z => b2 (h.2.1 t x2 _ _ ht b1 d.2.1 (Or.inr (Or.inl rfl)) (Or.inr (Or.inr rfl)) b3 (by rw [z]; exact c3)).symm
  have n13 : ¬ x1 = x3 := fun z => a2 (h.2.1 t x1 _ _ ht a1 d.2.2 (Or.inl rfl) (Or.inr (Or.inr rfl)) a3 (by rw [z]; exact c3)).symm
  have : s = x1 ∨ s = x2 ∨ s = x3 := by omega
  rcases this with rfl | rfl | rfl
  · exact ⟨_, Or.inl rfl, a3⟩
  · exact ⟨_, Or.inr (Or.inl rfl), b3⟩
  · exact ⟨_, Or.inr (Or.inr rfl), c3⟩
/-- the six points -/
def Six (B : Nat → Nat × Nat × Nat) (a b c d e f : Nat) : Prop := (∀ u, me B 0 u ↔ (u = a ∨ u = b ∨ u = c)) ∧ (∀ u, me B 1 u ↔ (u = a ∨ u = d ∨ u = e)) ∧ (∀ u, me B 2 u ↔ (u = b ∨ u = d ∨ u = f)) ∧ (∀ u, me B 3 u ↔ (u = c ∨ u = e ∨ u = f)) ∧
  ¬ a = b ∧ ¬ a = c ∧ ¬ a = d ∧ ¬ a = e ∧ ¬ a = f ∧ ¬ b = c ∧ ¬ b = d ∧ ¬ b = e ∧ ¬ b = f ∧ ¬ c = d ∧ ¬ c = e ∧ ¬ c = f ∧ ¬ d = e ∧ ¬ d = f ∧ ¬ e = f
theorem qd_six {B : Nat → Nat × Nat × Nat} (h : Qd B) : ∃ a b c d e f, Six B a b c d e f := by
  have i0 : 0 < 4 := by decide
  have i1 : 1 < 4 := by decide
  have i2 : 2 < 4 := by decide
  have i3 : 3 < 4 := by decide
  obtain ⟨a, a0, a1⟩ := qd_com h i0 i1 (by decide)
  obtain ⟨b, b0, b2⟩ := qd_com h i0 i2 (by decide)
  obtain ⟨c, c0, c3⟩ := qd_com h i0 i3 (by decide)
  obtain ⟨d, d1, d2⟩ := qd_com h i1 i2 (by decide)
  obtain ⟨e, e1, e3⟩ := qd_com h i1 i3 (by decide)
  obtain ⟨f, f2, f3⟩ := qd_com h i2 i3 (by decide)
  -- a point is in two of them only
  have two : ∀ u x y z, x < 4 → y < 4 → z < 4 → me B x u → me B y u → me B z u → x = y ∨ y = z ∨ x = z := by
    intro u x y z hx hy hz gx gy gz
    obtain ⟨s, s1, s2, s3, s4⟩ := qd_two h hx gx
    have ey := s4 y hy gy
    have ez := s4 z hz gz
    omega
  have no : ∀ {u v : Nat}, ∀ x y z, x < 4 → y < 4 → z < 4 → ¬ x = y → ¬ y = z → ¬ x = z → me B x u → me B y u → me B z v → ¬ u = v := by
    intro u v x y z hx hy hz h1 h2 h3 gx gy gz e
    subst e
    rcases two u x y z hx hy hz gx gy gz with q | q | q
    · exact h1 q
    · exact h2 q
    · exact h3 q
  have uq : ∀ {u v x y : Nat}, x < 4 → y < 4 → ¬ x = y → me B x u → me B y u → me B x v → me B y v → u = v := by
    intro u v x y hx hy hxy g1 g2 g3 g4
    exact Classical.byContradiction (fun q => hxy (h.2.1 x y u v hx hy q g1 g3 g2 g4))
  have mem : ∀ t u, t < 4 → me B t u → ∃ s, s < 4 ∧ ¬ s = t ∧ me B s u := fun t u ht hu => by
    obtain ⟨s, s1, s2, s3, -⟩ := qd_two h ht hu
    exact ⟨s, s1, s2, s3⟩
  refine ⟨a, b, c, d, e, f, fun u => ⟨fun g => ?_, fun g => ?_⟩, fun u => ⟨fun g => ?_, fun g => ?_⟩, fun u => ⟨fun g => ?_, fun g => ?_⟩, fun u => ⟨fun g => ?_, fun g => ?_⟩, no 0 1 2 i0 i1 i2 (by decide) (by decide) (by decide) a0 a1 b2, no 0 1 3 i0 i1 i3 (by decide) (by decide) (by decide) a0 a1 c3, no 0 1 2 i0 i1 i2 (by decide) (by decide) (by decide) a0 a1 d2, no 0 1 3 i0 i1 i3 (by decide) (by decide) (by decide) a0 a1 e3, no 0 1 2 i0 i1 i2 (by decide) (by decide) (by decide) a0 a1 f2, no 0 2 3 i0 i2 i3 (by decide) (by decide) (by decide) b0 b2 c3, no 0 2 1 i0 i2 i1 (by decide) (by decide) (by decide) b0 b2 d1, no 0 2 1 i0 i2 i1 (by decide) (by decide) (by decide) b0 b2 e1, no 0 2 3 i0 i2 i3 (by decide) (by decide) (by decide) b0 b2 f3, no 0 3 1 i0 i3 i1 (by decide) (by decide) (by decide) c0 c3 d1, no 0 3 1 i0 i3 i1 (by decide) (by decide) (by decide) c0 c3 e1, no 0 3 2 i0 i3 i2 (by decide) (by decide) (by decide) c0 c3 f2, no 1 2 3 i1 i2 i3 (by decide) (by decide) (by decide) d1 d2 e3, no 1 2 3 i1 i2 i3 (by decide) (by decide) (by decide) d1 d2 f3, no 1 3 2 i1 i3 i2 (by decide) (by decide) (by decide) e1 e3 f2⟩
  · obtain ⟨s, s1, s2, s3⟩ := mem 0 u i0 g
    have : s = 1 ∨ s = 2 ∨ s = 3 := by omega
    rcases this with rfl | rfl | rfl
    · exact Or.inl (uq i0 i1 (by decide) g s3 a0 a1)
    · exact Or.inr (Or.inl (uq i0 i2 (by decide) g s3 b0 b2))
    · exact Or.inr (Or.inr (uq i0 i3 (by decide) g s3 c0 c3))
  · rcases g with rfl | rfl | rfl <;> assumption
  · obtain ⟨s, s1, s2, s3⟩ := mem 1 u i1 g
    have : s = 0 ∨ s = 2 ∨ s = 3 := by omega
    rcases this with rfl | rfl | rfl
    · exact Or.inl (uq i1 i0 (by decide) g s3 a1 a0)
    · exact Or.inr (Or.inl (uq i1 i2 (by decide) g s3 d1 d2))
    · exact Or.inr (Or.inr (uq i1 i3 (by decide) g s3 e1 e3))
  · rcases g with rfl | rfl | rfl <;> assumption
  · obtain ⟨s, s1, s2, s3⟩ := mem 2 u i2 g
    have : s = 0 ∨ s = 1 ∨ s = 3 := by omega
    rcases this with rfl | rfl | rfl
    · exact Or.inl (uq i2 i0 (by decide) g s3 b2 b0)
    · exact Or.inr (Or.inl (uq i2 i1 (by decide) g s3 d2 d1))
    · exact Or.inr (Or.inr (uq i2 i3 (by decide) g s3 f2 f3))
  · rcases g with rfl | rfl | rfl <;> assumption
  · obtain ⟨s, s1, s2, s3⟩ := mem 3 u i3 g
    have : s = 0 ∨ s = 1 ∨ s = 2 := by omega
    rcases this with rfl | rfl | rfl
    · exact Or.inl (uq i3 i0 (by decide) g s3 c3 c0)
    · exact Or.inr (Or.inl (uq i3 i1 (by decide) g s3 e3 e1))
    · exact Or.inr (Or.inr (uq i3 i2 (by decide) g s3 f3 f2))
  · rcases g with rfl | rfl | rfl <;> assumption
/-- which of the six points are in which triple -/
def tab (t : Nat) (i : Fin 6) : Bool := match t with
  | 0 => i == 0 || i == 1 || i == 2
  | 1 => i == 0 || i == 3 || i == 4
  | 2 => i == 1 || i == 3 || i == 5
  | _ => i == 2 || i == 4 || i == 5
def six (a b c d e f : Nat) (i : Fin 6) : Nat := if i = 0 then a else if i = 1 then b else if i = 2 then c else if i = 3 then d else if i = 4 then e else f
theorem fin6 : ∀ i : Fin 6, i = 0 ∨ i = 1 ∨ i = 2 ∨ i = 3 ∨ i = 4 ∨ i = 5 := by decide
def SixP (B : Nat → Nat × Nat × Nat) (P : Fin 6 → Nat) : Prop := (∀ t u, t < 4 → (me B t u ↔ ∃ i, tab t i = true ∧ u = P i)) ∧ ∀ i j, P i = P j → i = j
theorem six_P {B : Nat → Nat × Nat × Nat} {a b c d e f : Nat} (h : Six B a b c d e f) : SixP B (six a b c d e f) := by
  obtain ⟨m0, m1, m2, m3, n1, n2, n3, n4, n5, n6, n7, n8, n9, n10, n11, n12, n13, n14, n15⟩ := h
  have p0 : six a b c d e f 0 = a := rfl
  have p1 : six a b c d e f 1 = b := rfl
  have p2 : six a b c d e f 2 = c := rfl
  have p3 : six a b c d e f 3 = d := rfl
  have p4 : six a b c d e f 4 = e := rfl
  have p5 : six a b c d e f 5 = f := rfl
  refine ⟨fun t u ht => ?_, fun i j e1 => ?_⟩
  · have : t = 0 ∨ t = 1 ∨ t = 2 ∨ t = 3 := by clear n1 n2 n3 n4 n5 n6 n7 n8 n9 n10 n11 n12 n13 n14 n15; omega
    rcases this with rfl | rfl | rfl | rfl
    · rw [m0]
      constructor
      · rintro (g | g | g)
        · exact ⟨0, rfl, g⟩
        · exact ⟨1, rfl, g⟩
        · exact ⟨2, rfl, g⟩
      · rintro ⟨i, hi, hu⟩
        rcases fin6 i with rfl | rfl | rfl | rfl | rfl | rfl
        · exact Or.inl hu
        · exact Or.inr (Or.inl hu)
        · exact Or.inr (Or.inr hu)
        · cases hi
        · cases hi
        · cases hi
    · rw [m1]
      constructor
      · rintro (g | g | g)
        · exact ⟨0, rfl, g⟩
        · exact ⟨3, rfl, g⟩
        · exact ⟨4, rfl, g⟩
      · rintro ⟨i, hi, hu⟩
        rcases fin6 i with rfl | rfl | rfl | rfl | rfl | rfl
        · exact Or.inl hu
        · cases hi
        · cases hi
        · exact Or.inr (Or.inl hu)
        · exact Or.inr (Or.inr hu)
        · cases hi
    · rw [m2]
      constructor
      · rintro (g | g | g)
        · exact ⟨1, rfl, g⟩
        · exact ⟨3, rfl, g⟩
        · exact ⟨5, rfl, g⟩
      · rintro ⟨i, hi, hu⟩
        rcases fin6 i with rfl | rfl | rfl | rfl | rfl | rfl
        · cases hi
        · exact Or.inl hu
        · cases hi
        · exact Or.inr (Or.inl hu)
        · cases hi
        · exact Or.inr (Or.inr hu)
    · rw [m3]
      constructor
      · rintro (g | g | g)
        · exact ⟨2, rfl, g⟩
        · exact ⟨4, rfl, g⟩
        · exact ⟨5, rfl, g⟩
      · rintro ⟨i, hi, hu⟩
        rcases fin6 i with rfl | rfl | rfl | rfl | rfl | rfl
        · cases hi
        · cases hi
        · exact Or.inl hu
        · cases hi
        · exact Or.inr (Or.inl hu)
        · exact Or.inr (Or.inr hu)
  · rcases fin6 i with rfl | rfl | rfl | rfl | rfl | rfl <;> rcases fin6 j with rfl | rfl | rfl | rfl | rfl | rfl <;>
      first
      | rfl
      | exact absurd e1 n1 | exact absurd e1 n2 | exact absurd e1 n3 | exact absurd e1 n4 | exact absurd e1 n5 | exact absurd e1 n6 | exact absurd e1 n7 | exact absurd e1 n8 | exact absurd e1 n9 | exact absurd e1 n10 | exact absurd e1 n11 | exact absurd e1 n12 | exact absurd e1 n13 | exact absurd e1 n14 | exact absurd e1 n15
      | exact absurd e1.symm n1 | exact absurd e1.symm n2 | exact absurd e1.symm n3 | exact absurd e1.symm n4 | exact absurd e1.symm n5 | exact absurd e1.symm n6 | exact absurd e1.symm n7 | exact absurd e1.symm n8 | exact absurd e1.symm n9 | exact absurd e1.symm n10 | exact absurd e1.symm n11 | exact absurd e1.symm n12 | exact absurd e1.symm n13 | exact absurd e1.symm n14 | exact absurd e1.symm n15
def rv6 (i : Fin 6) : Fin 6 := ⟨5 - i, by omega⟩
/-- the opposite of a point -/
noncomputable def opp (P : Fin 6 → Nat) (u : Nat) : Nat := if u = P 0 then P 5 else if u = P 1 then P 4 else if u = P 2 then P 3 else if u = P 3 then P 2 else if u = P 4 then P 1 else P 0
theorem opp_P {B : Nat → Nat × Nat × Nat} {P : Fin 6 → Nat} (h : SixP B P) (i : Fin 6) : opp P (P i) = P (rv6 i) := by
  have ne : ∀ j, ¬ i = j → ¬ P i = P j := fun j hj z => hj (h.2 i j z)
  unfold opp
  rcases fin6 i with rfl | rfl | rfl | rfl | rfl | rfl
  · rw [if_pos rfl]; rfl
  · rw [if_neg (ne 0 (by decide)), if_pos rfl]; rfl
  · rw [if_neg (ne 0 (by decide)), if_neg (ne 1 (by decide)), if_pos rfl]; rfl
  · rw [if_neg (ne 0 (by decide)), if_neg (ne 1 (by decide)), if_neg (ne 2 (by decide)), if_pos rfl]; rfl
  · rw [if_neg (ne 0 (by decide)), if_neg (ne 1 (by decide)), if_neg (ne 2 (by decide)), if_neg (ne 3 (by decide)), if_pos rfl]; rfl
  · rw [if_neg (ne 0 (by decide)), if_neg (ne 1 (by decide)), if_neg (ne 2 (by decide)), if_neg (ne 3 (by decide)), if_neg (ne 4 (by decide))]; rfl
theorem tb1 : ∀ i j : Fin 6, ¬ i = j → (∀ s : Fin 4, tab s i = true → tab s j = false) → j = rv6 i := by decide
theorem tb2 : ∀ i : Fin 6, (∃ s : Fin 4, tab s (rv6 i) = true) ∧ ¬ rv6 i = i ∧ ∀ s : Fin 4, tab s i = true → tab s (rv6 i) = false := by decide
theorem tb3 : ∀ (t : Fin 4) (i j : Fin 6), ¬ i = j → tab t i = true → tab t j = true → ∃ s : Fin 4, tab s (rv6 i) = true ∧ tab s (rv6 j) = true := by decide
theorem tb4 : ∀ i j : Fin 6, rv6 i = rv6 j → i = j := by decide
section SX
variable {B : Nat → Nat × Nat × Nat} {P : Fin 6 → Nat}
/-- what is left when a point's triples are taken off -/
theorem opp_l (h : SixP B P) {t u : Nat} (ht : t < 4) (hu : me B t u) (w : Nat) : (((∃ s, s < 4 ∧ me B s w) ∧ ¬ w = u ∧ ∀ s, s < 4 → me B s u → ¬ me B s w) ↔ w = opp P u) := by
  obtain ⟨i, hi, rfl⟩ := (h.1 t u ht).mp hu
  rw [opp_P h]
  constructor
  · intro ⟨⟨s, hs, hw⟩, hne, hall⟩
    obtain ⟨j, hj, rfl⟩ := (h.1 s w hs).mp hw
    congr 1
    refine tb1 i j (fun z => hne (by rw [z])) (fun s' g => ?_)
    cases e : tab s' j
    · rfl
    · exact absurd ((h.1 s' _ s'.isLt).mpr ⟨j, e, rfl⟩) (hall s' s'.isLt ((h.1 s' _ s'.isLt).mpr ⟨i, g, rfl⟩))
  · intro hw
    obtain ⟨⟨s, hs⟩, h2, h3⟩ := tb2 i
    subst hw
    refine ⟨⟨s, s.isLt, (h.1 s _ s.isLt).mpr ⟨_, hs, rfl⟩⟩, fun z => h2 (h.2 _ _ z), fun s' g1 g2 g3 => ?_⟩
    obtain ⟨k, hk, e⟩ := (h.1 s' _ g1).mp g2
    have e := h.2 _ _ e
    subst e
    obtain ⟨l, hl, e⟩ := (h.1 s' _ g1).mp g3
    have e := h.2 _ _ e
    subst e
    have := h3 ⟨s', g1⟩ hk
    rw [hl] at this
    cases this
theorem opp_inj (h : SixP B P) {t s u v : Nat} (ht : t < 4) (hs : s < 4) (hu : me B t u) (hv : me B s v) (e1 : opp P u = opp P v) : u = v := by
  obtain ⟨i, hi, rfl⟩ := (h.1 t u ht).mp hu
  obtain ⟨j, hj, rfl⟩ := (h.1 s v hs).mp hv
  rw [opp_P h, opp_P h] at e1
  rw [tb4 i j (h.2 _ _ e1)]
theorem opp_in (h : SixP B P) {t u : Nat} (ht : t < 4) (hu : me B t u) : ∃ s, s < 4 ∧ me B s (opp P u) := by
  obtain ⟨⟨s, s1, s2⟩, -⟩ := (opp_l h ht hu (opp P u)).mpr rfl
  exact ⟨s, s1, s2⟩
/-- two points of a triple: their opposites are two points of one -/
theorem opp_pr (h : SixP B P) {t u v : Nat} (ht : t < 4) (huv : ¬ u = v) (hu : me B t u) (hv : me B t v) : ∃ s, s < 4 ∧ me B s (opp P u) ∧ me B s (opp P v) := by
  obtain ⟨i, hi, rfl⟩ := (h.1 t u ht).mp hu
  obtain ⟨j, hj, rfl⟩ := (h.1 t v ht).mp hv
  obtain ⟨s, s1, s2⟩ := tb3 ⟨t, ht⟩ i j (fun z => huv (by rw [z])) hi hj
  rw [opp_P h, opp_P h]
  exact ⟨s, s.isLt, (h.1 s _ s.isLt).mpr ⟨_, s1, rfl⟩, (h.1 s _ s.isLt).mpr ⟨_, s2, rfl⟩⟩
end SX
