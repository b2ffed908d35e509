/-! ===== clear and force bring the same on both sides (pure) ===== -/
abbrev inT (T : sT) (u v i : Nat) : Prop := i = u ∨ i = v ∨ T u v = (i : Int)
theorem inT_tr {V : Nat} {T : sT} (hT : sOk V T) {u v x y : Nat} (h : ¬ T u v = -1) (hxy : ¬ x = y) (hx : inT T u v x) (hy : inT T u v y) : ¬ T x y = -1 ∧ ∀ i, inT T u v i ↔ inT T x y i := by
  obtain ⟨w, ew, l1, l2, l3, d1, d2, d3, t1, t2, t3, t4, t5⟩ := sOk_at hT rfl h
  unfold inT at *
  rw [ew] at hx hy ⊢
  have hx : x = u ∨ x = v ∨ x = w := by omega
  have hy : y = u ∨ y = v ∨ y = w := by omega
  have g : ∀ a b c : Nat, T a b = (c : Int) → (∀ i, (i = u ∨ i = v ∨ i = w) ↔ (i = a ∨ i = b ∨ i = c)) → ¬ T a b = -1 ∧ ∀ i : Nat, (i = u ∨ i = v ∨ (w : Int) = (i : Int)) ↔ (i = a ∨ i = b ∨ T a b = (i : Int)) := fun a b c e k => by
    rw [e]
    refine ⟨by omega, fun i => ?_⟩
    have := k i
    omega
  rcases hx with hx | hx | hx <;> rcases hy with hy | hy | hy <;> rw [hx, hy] <;> first | exact absurd (hx.trans hy.symm) hxy | skip
  · exact g u v w ew (fun i => by omega)
  · exact g u w v t2 (fun i => by omega)
  · exact g v u w t1 (fun i => by omega)
  · exact g v w u t3 (fun i => by omega)
  · exact g w u v t4 (fun i => by omega)
  · exact g w v u t5 (fun i => by omega)
/-- S is T without the triples of which C says so -/
def tkn (T S : sT) (C : Nat → Nat → Prop) : Prop := ∀ u v, (S u v = -1 ∧ (T u v = -1 ∨ C u v)) ∨ (S u v = T u v ∧ ¬ T u v = -1 ∧ ¬ C u v)
def inv3 (T : sT) (C : Nat → Nat → Prop) : Prop := ∀ u v x y, ¬ T u v = -1 → ¬ x = y → inT T u v x → inT T u v y → (C u v ↔ C x y)
theorem tkn_eq {T S S1 : sT} {C C1 : Nat → Nat → Prop} (h : tkn T S C) (h1 : tkn T S1 C1) (e : ∀ u v, ¬ T u v = -1 → (C u v ↔ C1 u v)) : S = S1 := by
  funext u v
  rcases h u v with ⟨a, b⟩ | ⟨a, b, c⟩
  · rcases h1 u v with ⟨a1, b1⟩ | ⟨a1, b1, c1⟩
    · rw [a, a1]
    · rcases b with b | b
      · exact absurd b b1
      · exact absurd ((e u v b1).mp b) c1
  · rcases h1 u v with ⟨a1, b1⟩ | ⟨a1, b1, c1⟩
    · rcases b1 with b1 | b1
      · exact absurd b1 b
      · exact absurd ((e u v b).mpr b1) c
    · rw [a, a1]
theorem tkn_0 (T : sT) : tkn T T (fun _ _ => False) := fun u v => by
  by_cases h : T u v = -1
  · exact Or.inl ⟨h, Or.inl h⟩
  · exact Or.inr ⟨rfl, h, id⟩
theorem inv3_0 (T : sT) : inv3 T (fun _ _ => False) := fun _ _ _ _ _ _ _ _ => Iff.rfl
theorem inv3_or {V : Nat} {T : sT} (hT : sOk V T) {C : Nat → Nat → Prop} (h : inv3 T C) (a b : Nat) : inv3 T (fun u v => C u v ∨ (inT T u v a ∧ inT T u v b)) := fun u v x y g1 g2 g3 g4 => by
  have k := (inT_tr hT g1 g2 g3 g4).2
  have c := h u v x y g1 g2 g3 g4
  show (C u v ∨ inT T u v a ∧ inT T u v b) ↔ (C x y ∨ inT T x y a ∧ inT T x y b)
  rw [k a, k b, c]
theorem rm_s {V : Nat} {T S : sT} {C : Nat → Nat → Prop} (hT : sOk V T) (h : tkn T S C) (hC : inv3 T C) {x y : Nat} (hxy : ¬ x = y) : tkn T (rmT S x y) (fun u v => C u v ∨ (inT T u v x ∧ inT T u v y)) := by
  intro u v
  unfold rmT
  by_cases e : S x y = -1
  · rw [if_pos e]
    rcases h u v with ⟨a, b⟩ | ⟨a, b, c⟩
    · exact Or.inl ⟨a, b.imp id Or.inl⟩
    · refine Or.inr ⟨a, b, fun z => ?_⟩
      rcases z with z | ⟨z1, z2⟩
      · exact c z
      · have k := (inT_tr hT b hxy z1 z2).1
        have cc := hC u v x y b hxy z1 z2
        rcases h x y with ⟨p, q⟩ | ⟨p, q, r⟩
        · rcases q with q | q
          · exact k q
          · exact c (cc.mpr q)
        · exact q (p.symm.trans e)
  · rw [if_neg e]
    obtain ⟨p, q, r⟩ : S x y = T x y ∧ ¬ T x y = -1 ∧ ¬ C x y := by
      rcases h x y with ⟨p, -⟩ | g
      · exact absurd p e
      · exact g
    obtain ⟨w, ew, -, -, -, d1, d2, d3, -⟩ := sOk_at hT rfl q
    rw [p, ew, Int.toNat_natCast]
    unfold sTake
    by_cases hp : sPr x y w u v
    · rw [if_pos hp]
      obtain ⟨n, i1, i2⟩ := hp
      have k := (inT_tr hT q n (show inT T x y u by unfold inT; omega) (show inT T x y v by unfold inT; omega)).2
      exact Or.inl ⟨rfl, Or.inr (Or.inr ⟨(k x).mp (Or.inl rfl), (k y).mp (Or.inr (Or.inl rfl))⟩)⟩
    · rw [if_neg hp]
      rcases h u v with ⟨a, b⟩ | ⟨a, b, c⟩
      · exact Or.inl ⟨a, b.imp id Or.inl⟩
      · refine Or.inr ⟨a, b, fun z => ?_⟩
        rcases z with z | ⟨z1, z2⟩
        · exact c z
        · have k := (inT_tr hT b hxy z1 z2).2
          have ku := (k u).mp (Or.inl rfl)
          have kv := (k v).mp (Or.inr (Or.inl rfl))
          obtain ⟨-, -, -, -, -, duv, -⟩ := sOk_at hT rfl b
          unfold inT at ku kv
          rw [ew] at ku kv
          exact hp ⟨duv, by omega, by omega⟩
theorem dP_tkn {V : Nat} {B : Nat → Bool} {T : sT} (hT : sOk V T) : tkn T (dP B T 225) (fun u v => B (cd T u v) = true) := fun u v => by
  rcases (dP_s (B := B) hT 225).2 u v with ⟨a, b⟩ | ⟨a, b, c⟩
  · exact Or.inl ⟨a, b.imp id (fun k => k.2)⟩
  · exact Or.inr ⟨a, b, fun k => c ⟨cd_lt hT b, k⟩⟩
/-- the points of a covered pair's triple in a set, counted -/
theorem mtB_n {V : Nat} {T : sT} (hT : sOk V T) {u v w M : Nat} {c : Int} (h : T u v = (w : Int)) : mtB T M c (cd T u v) = true ↔ c ≤ ((M.testBit u).toNat + (M.testBit v).toNat + (M.testBit w).toNat : Nat) := by
  have hne : ¬ T u v = -1 := by omega
  obtain ⟨g1, g2, g3⟩ := cd_of hT hne
  obtain ⟨z, ez, h1, h2, h3⟩ := tr_pts hT g1
  have hV := hT.2.1
  have e := mk_cd hT h
  have e2 : m3 (cd T u v / 15) (cd T u v % 15) z = m3 u v w := by rw [← e]; unfold mk3; rw [ez, Int.toNat_natCast]
  unfold mtB
  rw [decide_eq_true_iff, e, ← e2, bc_and h1 h2 (by omega)]
  obtain ⟨w', ew, -, -, -, d1, d2, d3, -⟩ := sOk_at hT rfl hne
  have q := fun i => m3_eq e2 i
  have qu := (q u).mpr (Or.inl rfl)
  have qv := (q v).mpr (Or.inr (Or.inl rfl))
  have qw := (q w).mpr (Or.inr (Or.inr rfl))
  have hw : w' = w := by omega
  subst hw
  rcases qu with a | a | a <;> rcases qv with b | b | b <;> rcases qw with c' | c' | c' <;> first | exact absurd (a.trans b.symm) d1 | exact absurd (a.trans c'.symm) d2 | exact absurd (b.trans c'.symm) d3 | (rw [← a, ← b, ← c'] <;> omega)
theorem force_eq {V : Nat} {T : sT} (hT : sOk V T) {a b c : Nat} (hab : ¬ a = b) (hbc : ¬ b = c) (hac : ¬ a = c) : dP (mtB T (m3 a b c) 2) T 225 = r3T T a b c := by
  have s1 := rm_s hT (tkn_0 T) (inv3_0 T) hab
  have i1 := inv3_or hT (inv3_0 T) a b
  have s2 := rm_s hT s1 i1 hbc
  have i2 := inv3_or hT i1 b c
  have s3 := rm_s hT s2 i2 hac
  refine tkn_eq (dP_tkn hT) s3 (fun u v h => ?_)
  obtain ⟨w, ew, -, -, -, d1, d2, d3, -⟩ := sOk_at hT rfl h
  show _ ↔ ((False ∨ inT T u v a ∧ inT T u v b) ∨ inT T u v b ∧ inT T u v c) ∨ inT T u v a ∧ inT T u v c
  rw [false_or]
  rw [mtB_n hT ew]
  unfold inT
  rw [ew]
  have t : ∀ i, ((m3 a b c).testBit i).toNat = if i = a ∨ i = b ∨ i = c then 1 else 0 := fun i => by
    rw [m3_test]
    by_cases g : i = a ∨ i = b ∨ i = c
    · rw [if_pos g, decide_eq_true g]; rfl
    · rw [if_neg g, decide_eq_false g]; rfl
  rw [t, t, t]
  split <;> split <;> split <;> omega
