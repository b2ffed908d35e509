/-! ===== opposites (pure) ===== -/
def lfL (p : Nat) : Nat → List Nat → Nat
  | l, [] => l
  | l, m :: r => lfL p (if m.testBit p = true then ndif l m else l) r
theorem lfL_test {p : Nat} : ∀ {M : List Nat} {l : Nat} (v : Nat), (lfL p l M).testBit v = true ↔ (l.testBit v = true ∧ ∀ m, m ∈ M → m.testBit p = true → ¬ m.testBit v = true)
  | [], l, v => ⟨fun h => ⟨h, fun m hm => absurd hm (by simp)⟩, fun h => h.1⟩
  | m :: r, l, v => by
    have i := lfL_test (p := p) (M := r) (l := if m.testBit p = true then ndif l m else l) v
    show (lfL p (if m.testBit p = true then ndif l m else l) r).testBit v = true ↔ _
    rw [i]
    by_cases g : m.testBit p = true
    · rw [if_pos g, nd_test, Bool.and_eq_true, Bool.not_eq_true']
      constructor
      · rintro ⟨⟨h1, h2⟩, h3⟩
        refine ⟨h1, fun k hk => ?_⟩
        rcases List.mem_cons.mp hk with rfl | hk
        · intro _ z
          rw [z] at h2
          cases h2
        · exact h3 k hk
      · rintro ⟨h1, h2⟩
        refine ⟨⟨h1, ?_⟩, fun k hk => h2 k (List.mem_cons_of_mem _ hk)⟩
        have := h2 m List.mem_cons_self g
        cases e : m.testBit v
        · rfl
        · exact absurd e this
    · rw [if_neg g]
      constructor
      · rintro ⟨h1, h3⟩
        refine ⟨h1, fun k hk => ?_⟩
        rcases List.mem_cons.mp hk with rfl | hk
        · exact fun z => absurd z g
        · exact h3 k hk
      · rintro ⟨h1, h2⟩
        exact ⟨h1, fun k hk => h2 k (List.mem_cons_of_mem _ hk)⟩
/-- what is left of a quadrilateral's points beside one: its opposite alone -/
def opL (T : sT) (n u : Nat) : Nat := lfL u (ndif (qU T n) (2 ^ u)) (qG T n)
def o6 (p a b c d e u : Nat) : Nat := if u = p then e else if u = a then d else if u = b then c else if u = c then b else if u = d then a else p
theorem o6_is {p a b c d e : Nat} (h : sxP p a b c d e) : o6 p a b c d e p = e ∧ o6 p a b c d e a = d ∧ o6 p a b c d e b = c ∧ o6 p a b c d e c = b ∧ o6 p a b c d e d = a ∧ o6 p a b c d e e = p := by
  obtain ⟨⟨k1, k2, k3, k4, k5⟩, ⟨k6, k7, k8, k9⟩, ⟨k10, k11, k12⟩, ⟨k13, k14⟩, k15⟩ := h
  unfold o6
  refine ⟨by rw [if_pos rfl], ?_, ?_, ?_, ?_, ?_⟩
  · rw [if_neg (by omega), if_pos rfl]
  · rw [if_neg (by omega), if_neg (by omega), if_pos rfl]
  · rw [if_neg (by omega), if_neg (by omega), if_neg (by omega), if_pos rfl]
  · rw [if_neg (by omega), if_neg (by omega), if_neg (by omega), if_neg (by omega), if_pos rfl]
  · rw [if_neg (by omega), if_neg (by omega), if_neg (by omega), if_neg (by omega), if_neg (by omega)]
theorem m4_ev {P : Nat → Prop} {a b c d : Nat} : (∀ m, m ∈ [a, b, c, d] → P m) ↔ (P a ∧ P b ∧ P c ∧ P d) := by
  constructor
  · intro h
    exact ⟨h a (by simp), h b (by simp), h c (by simp), h d (by simp)⟩
  · rintro ⟨h1, h2, h3, h4⟩ m hm
    simp only [List.mem_cons, List.not_mem_nil, or_false] at hm
    rcases hm with rfl | rfl | rfl | rfl <;> assumption
theorem opL_6 {V : Nat} {T : sT} {n : Nat} {p a b c d e : Nat} (h6 : sxP p a b c d e) (eG : qG T n = [m3 p a b, m3 p c d, m3 a c e, m3 b d e]) (hU : ∀ u, (qU T n).testBit u = true ↔ (u = p ∨ u = a ∨ u = b ∨ u = c ∨ u = d ∨ u = e)) {u : Nat} (hu : (qU T n).testBit u = true) : opL T n u = 2 ^ o6 p a b c d e u := by
  have o := o6_is h6
  obtain ⟨⟨k1, k2, k3, k4, k5⟩, ⟨k6, k7, k8, k9⟩, ⟨k10, k11, k12⟩, ⟨k13, k14⟩, k15⟩ := h6
  obtain ⟨o1, o2, o3, o4, o5, o6'⟩ := o
  apply Nat.eq_of_testBit_eq
  intro v
  have key : (opL T n u).testBit v = true ↔ o6 p a b c d e u = v := by
    unfold opL
    rw [lfL_test, eG, m4_ev, nd_test, Bool.and_eq_true, hU v, Nat.testBit_two_pow, Bool.not_eq_true', decide_eq_false_iff_not]
    simp only [m3_test, decide_eq_true_eq]
    constructor
    · rintro ⟨⟨hv, hn⟩, q1, q2, q3, q4⟩
      rcases (hU u).mp hu with rfl | rfl | rfl | rfl | rfl | rfl <;> rcases hv with rfl | rfl | rfl | rfl | rfl | rfl <;> first | exact o1 | exact o2 | exact o3 | exact o4 | exact o5 | exact o6' | exact absurd rfl hn | exact (q1 (by simp) (by simp)).elim | exact (q2 (by simp) (by simp)).elim | exact (q3 (by simp) (by simp)).elim | exact (q4 (by simp) (by simp)).elim
    · intro q
      rw [← q]
      rcases (hU u).mp hu with rfl | rfl | rfl | rfl | rfl | rfl
      · rw [o1]; simp [k1, k2, k3, k4, k5, k6, k7, k8, k9, k10, k11, k12, k13, k14, k15, Ne.symm k1, Ne.symm k2, Ne.symm k3, Ne.symm k4, Ne.symm k5, Ne.symm k6, Ne.symm k7, Ne.symm k8, Ne.symm k9, Ne.symm k10, Ne.symm k11, Ne.symm k12, Ne.symm k13, Ne.symm k14, Ne.symm k15]
      · rw [o2]; simp [k1, k2, k3, k4, k5, k6, k7, k8, k9, k10, k11, k12, k13, k14, k15, Ne.symm k1, Ne.symm k2, Ne.symm k3, Ne.symm k4, Ne.symm k5, Ne.symm k6, Ne.symm k7, Ne.symm k8, Ne.symm k9, Ne.symm k10, Ne.symm k11, Ne.symm k12, Ne.symm k13, Ne.symm k14, Ne.symm k15]
      · rw [o3]; simp [k1, k2, k3, k4, k5, k6, k7, k8, k9, k10, k11, k12, k13, k14, k15, Ne.symm k1, Ne.symm k2, Ne.symm k3, Ne.symm k4, Ne.symm k5, Ne.symm k6, Ne.symm k7, Ne.symm k8, Ne.symm k9, Ne.symm k10, Ne.symm k11, Ne.symm k12, Ne.symm k13, Ne.symm k14, Ne.symm k15]
      · rw [o4]; simp [k1, k2, k3, k4, k5, k6, k7, k8, k9, k10, k11, k12, k13, k14, k15, Ne.symm k1, Ne.symm k2, Ne.symm k3, Ne.symm k4, Ne.symm k5, Ne.symm k6, Ne.symm k7, Ne.symm k8, Ne.symm k9, Ne.symm k10, Ne.symm k11, Ne.symm k12, Ne.symm k13, Ne.symm k14, Ne.symm k15]
      · rw [o5]; simp [k1, k2, k3, k4, k5, k6, k7, k8, k9, k10, k11, k12, k13, k14, k15, Ne.symm k1, Ne.symm k2, Ne.symm k3, Ne.symm k4, Ne.symm k5, Ne.symm k6, Ne.symm k7, Ne.symm k8, Ne.symm k9, Ne.symm k10, Ne.symm k11, Ne.symm k12, Ne.symm k13, Ne.symm k14, Ne.symm k15]
      · rw [o6']; simp [k1, k2, k3, k4, k5, k6, k7, k8, k9, k10, k11, k12, k13, k14, k15, Ne.symm k1, Ne.symm k2, Ne.symm k3, Ne.symm k4, Ne.symm k5, Ne.symm k6, Ne.symm k7, Ne.symm k8, Ne.symm k9, Ne.symm k10, Ne.symm k11, Ne.symm k12, Ne.symm k13, Ne.symm k14, Ne.symm k15]
  rw [Nat.testBit_two_pow, Bool.eq_iff_iff, key, decide_eq_true_iff]
/-- the opposite of a point of a quadrilateral -/
def oppQ (T : sT) (n u : Nat) : Nat := Nat.log2 (opL T n u)
/-- a triple of a quadrilateral and what comes in its place -/
theorem opp_3 {V : Nat} {T : sT} (hT : sOk V T) {n : Nat} (hn : n < 42875) (h : qdB T n = true) {m x y z : Nat} (hm : m ∈ qG T n) (em : m = m3 x y z) (hxy : ¬ x = y) (hyz : ¬ y = z) (hxz : ¬ x = z) : (∀ u, u = x ∨ u = y ∨ u = z → (qU T n).testBit u = true ∧ opL T n u = 2 ^ oppQ T n u ∧ oppQ T n u < V) ∧ ndif (qU T n) m = m3 (oppQ T n x) (oppQ T n y) (oppQ T n z) ∧ ¬ oppQ T n x = oppQ T n y ∧ ¬ oppQ T n y = oppQ T n z ∧ ¬ oppQ T n x = oppQ T n z := by
  obtain ⟨p, a, b, c, d, e, ⟨lp, la, lb, lc, ld, le⟩, h6, eG, eC, hU, -⟩ := qd_all hT hn h
  have ho : ∀ u, (qU T n).testBit u = true → oppQ T n u = o6 p a b c d e u := fun u hu => by
    unfold oppQ
    rw [opL_6 (V := V) h6 eG hU hu, Nat.log2_two_pow]
  obtain ⟨o1, o2, o3, o4, o5, o6'⟩ := o6_is h6
  obtain ⟨⟨k1, k2, k3, k4, k5⟩, ⟨k6, k7, k8, k9⟩, ⟨k10, k11, k12⟩, ⟨k13, k14⟩, k15⟩ := id h6
  have hmem : ∀ u, (u = x ∨ u = y ∨ u = z) → (qU T n).testBit u = true := fun u hu => by
    have g : m.testBit u = true := by rw [em, m3_test]; exact decide_eq_true hu
    rw [eG] at hm
    simp only [List.mem_cons, List.not_mem_nil, or_false] at hm
    rw [hU u]
    rcases hm with rfl | rfl | rfl | rfl <;> (rw [m3_test] at g; rcases of_decide_eq_true g with g | g | g <;> simp [g])
  have hlt : ∀ u, (qU T n).testBit u = true → o6 p a b c d e u < V := fun u hu => by
    rcases (hU u).mp hu with rfl | rfl | rfl | rfl | rfl | rfl
    · rw [o1]; exact le
    · rw [o2]; exact ld
    · rw [o3]; exact lc
    · rw [o4]; exact lb
    · rw [o5]; exact la
    · rw [o6']; exact lp
  have inj : ∀ u v, (qU T n).testBit u = true → (qU T n).testBit v = true → o6 p a b c d e u = o6 p a b c d e v → u = v := fun u v hu hv q => by
    have iv : ∀ w, (qU T n).testBit w = true → o6 p a b c d e (o6 p a b c d e w) = w := fun w hw => by
      rcases (hU w).mp hw with rfl | rfl | rfl | rfl | rfl | rfl
      · rw [o1, o6']
      · rw [o2, o5]
      · rw [o3, o4]
      · rw [o4, o3]
      · rw [o5, o2]
      · rw [o6', o1]
    rw [← iv u hu, q, iv v hv]
  have hx := hmem x (Or.inl rfl)
  have hy := hmem y (Or.inr (Or.inl rfl))
  have hz := hmem z (Or.inr (Or.inr rfl))
  refine ⟨fun u hu => ⟨hmem u hu, by rw [ho u (hmem u hu)]; exact opL_6 (V := V) h6 eG hU (hmem u hu), by rw [ho u (hmem u hu)]; exact hlt u (hmem u hu)⟩, ?_, ?_, ?_, ?_⟩
  · rw [ho x hx, ho y hy, ho z hz]
    apply Nat.eq_of_testBit_eq
    intro v
    rw [nd_test, m3_test, Bool.eq_iff_iff, Bool.and_eq_true, hU v, Bool.not_eq_true', decide_eq_true_iff]
    have gm : m.testBit v = false ↔ ¬ m.testBit v = true := by cases m.testBit v <;> simp
    rw [gm]
    have mv : m.testBit v = true ↔ (v = x ∨ v = y ∨ v = z) := by rw [em, m3_test]; exact decide_eq_true_iff
    have mm : ∀ u, m.testBit u = true ↔ (u = x ∨ u = y ∨ u = z) := fun u => by rw [em, m3_test]; exact decide_eq_true_iff
    rw [eG] at hm
    simp only [List.mem_cons, List.not_mem_nil, or_false] at hm
    have pick : ∀ s t r s' t' r' : Nat, m = m3 s t r → o6 p a b c d e s = s' → o6 p a b c d e t = t' → o6 p a b c d e r = r' → ((v = o6 p a b c d e x ∨ v = o6 p a b c d e y ∨ v = o6 p a b c d e z) ↔ (v = s' ∨ v = t' ∨ v = r')) := fun s t r s' t' r' e1 e2 e3 e4 => by
      have ms : ∀ u, (u = s ∨ u = t ∨ u = r) ↔ (u = x ∨ u = y ∨ u = z) := fun u => by rw [← mm u, e1, m3_test]; exact decide_eq_true_iff.symm
      have q : ∀ u, (u = x ∨ u = y ∨ u = z) → (o6 p a b c d e u = s' ∨ o6 p a b c d e u = t' ∨ o6 p a b c d e u = r') := fun u hu => by
        rcases (ms u).mpr hu with rfl | rfl | rfl
        · exact Or.inl e2
        · exact Or.inr (Or.inl e3)
        · exact Or.inr (Or.inr e4)
      have q2 : ∀ u, (u = s ∨ u = t ∨ u = r) → (o6 p a b c d e u = o6 p a b c d e x ∨ o6 p a b c d e u = o6 p a b c d e y ∨ o6 p a b c d e u = o6 p a b c d e z) := fun u hu => by
        rcases (ms u).mp hu with rfl | rfl | rfl
        · exact Or.inl rfl
        · exact Or.inr (Or.inl rfl)
        · exact Or.inr (Or.inr rfl)
      constructor
      · rintro (rfl | rfl | rfl)
        · exact q x (Or.inl rfl)
        · exact q y (Or.inr (Or.inl rfl))
        · exact q z (Or.inr (Or.inr rfl))
      · rintro (rfl | rfl | rfl)
        · rw [← e2]; exact q2 s (Or.inl rfl)
        · rw [← e3]; exact q2 t (Or.inr (Or.inl rfl))
        · rw [← e4]; exact q2 r (Or.inr (Or.inr rfl))
    rcases hm with hm | hm | hm | hm
    · rw [pick p a b e d c hm o1 o2 o3, hm, m3_test, decide_eq_true_iff]
      constructor
      · rintro ⟨q1, q2⟩
        rcases q1 with q1 | q1 | q1 | q1 | q1 | q1 <;> first | (simp [q1]; done) | exact absurd (by simp [q1]) q2
      · rintro (rfl | rfl | rfl) <;> simp [k1, k2, k3, k4, k5, k6, k7, k8, k9, k10, k11, k12, k13, k14, k15, Ne.symm k1, Ne.symm k2, Ne.symm k3, Ne.symm k4, Ne.symm k5, Ne.symm k6, Ne.symm k7, Ne.symm k8, Ne.symm k9, Ne.symm k10, Ne.symm k11, Ne.symm k12, Ne.symm k13, Ne.symm k14, Ne.symm k15]
    · rw [pick p c d e b a hm o1 o4 o5, hm, m3_test, decide_eq_true_iff]
      constructor
      · rintro ⟨q1, q2⟩
        rcases q1 with q1 | q1 | q1 | q1 | q1 | q1 <;> first | (simp [q1]; done) | exact absurd (by simp [q1]) q2
      · rintro (rfl | rfl | rfl) <;> simp [k1, k2, k3, k4, k5, k6, k7, k8, k9, k10, k11, k12, k13, k14, k15, Ne.symm k1, Ne.symm k2, Ne.symm k3, Ne.symm k4, Ne.symm k5, Ne.symm k6, Ne.symm k7, Ne.symm k8, Ne.symm k9, Ne.symm k10, Ne.symm k11, Ne.symm k12, Ne.symm k13, Ne.symm k14, Ne.symm k15]
    · rw [pick a c e d b p hm o2 o4 o6', hm, m3_test, decide_eq_true_iff]
      constructor
      · rintro ⟨q1, q2⟩
        rcases q1 with q1 | q1 | q1 | q1 | q1 | q1 <;> first | (simp [q1]; done) | exact absurd (by simp [q1]) q2
      · rintro (rfl | rfl | rfl) <;> simp [k1, k2, k3, k4, k5, k6, k7, k8, k9, k10, k11, k12, k13, k14, k15, Ne.symm k1, Ne.symm k2, Ne.symm k3, Ne.symm k4, Ne.symm k5, Ne.symm k6, Ne.symm k7, Ne.symm k8, Ne.symm k9, Ne.symm k10, Ne.symm k11, Ne.symm k12, Ne.symm k13, Ne.symm k14, Ne.symm k15]
    · rw [pick b d e c a p hm o3 o5 o6', hm, m3_test, decide_eq_true_iff]
      constructor
      · rintro ⟨q1, q2⟩
        rcases q1 with q1 | q1 | q1 | q1 | q1 | q1 <;> first | (simp [q1]; done) | exact absurd (by simp [q1]) q2
      · rintro (rfl | rfl | rfl) <;> simp [k1, k2, k3, k4, k5, k6, k7, k8, k9, k10, k11, k12, k13, k14, k15, Ne.symm k1, Ne.symm k2, Ne.symm k3, Ne.symm k4, Ne.symm k5, Ne.symm k6, Ne.symm k7, Ne.symm k8, Ne.symm k9, Ne.symm k10, Ne.symm k11, Ne.symm k12, Ne.symm k13, Ne.symm k14, Ne.symm k15]
  · rw [ho x hx, ho y hy]; exact fun q => hxy (inj x y hx hy q)
  · rw [ho y hy, ho z hz]; exact fun q => hyz (inj y z hy hz q)
  · rw [ho x hx, ho z hz]; exact fun q => hxz (inj x z hx hz q)
/-- the points as the union of all four -/
theorem qU_4 {V : Nat} {T : sT} (hT : sOk V T) {n : Nat} (hn : n < 42875) (h : qdB T n = true) : mN T (n / 1225) ||| mN T (n / 35 % 35) ||| mN T (n % 35) ||| mN T (ql T n) = qU T n := by
  obtain ⟨p, a, b, c, d, e, -, h6, eG, -, hU, -⟩ := qd_all hT hn h
  have e1 : mN T (n / 1225) = m3 p a b ∧ mN T (n / 35 % 35) = m3 p c d ∧ mN T (n % 35) = m3 a c e ∧ mN T (ql T n) = m3 b d e := by
    unfold qG at eG
    simp only [List.cons.injEq, and_true] at eG
    exact eG
  obtain ⟨m1, m2, m3', m4⟩ := e1
  apply Nat.eq_of_testBit_eq
  intro u
  rw [m1, m2, m3', m4, Bool.eq_iff_iff, hU u]
  simp only [Nat.testBit_or, m3_test, Bool.or_eq_true, decide_eq_true_eq]
  constructor
  · intro h
    rcases h with ((h | h) | h) | h <;> rcases h with h | h | h <;> simp [h]
  · intro h
    rcases h with h | h | h | h | h | h <;> simp [h]
/-- pairs of what fits are free -/
theorem freM_in {V : Nat} {T : sT} (hT : sOk V T) {m : Nat} (h : freM V T m) : ∀ u v, in2 m u v → T u v = -1 := by
  obtain ⟨x, y, z, h1, h2, h3, rfl, f1, f2, f3⟩ := h
  intro u v g
  obtain ⟨g0, g1, g2⟩ := in2_3.mp g
  rcases g1 with rfl | rfl | rfl <;> rcases g2 with rfl | rfl | rfl <;> first | exact absurd rfl g0 | exact f1 | exact f2 | exact f3 | exact sy_free hT f1 | exact sy_free hT f2 | exact sy_free hT f3
theorem freM_3 {V x y z : Nat} {T : sT} (hT : sOk V T) (h : freM V T (m3 x y z)) (hxy : ¬ x = y) (hyz : ¬ y = z) (hxz : ¬ x = z) : sFree T x y z :=
  ⟨freM_in hT h x y (in2_3.mpr ⟨hxy, by simp, by simp⟩), freM_in hT h y z (in2_3.mpr ⟨hyz, by simp, by simp⟩), freM_in hT h x z (in2_3.mpr ⟨hxz, by simp, by simp⟩)⟩
