/-! ===== common points of a triple and a set (pure) ===== -/
def b2N (b : Bool) (x : Nat) : Nat := bif b then 2 ^ x else 0
theorem bc_sub : ∀ x y z : Fin 15, ∀ a b c : Bool, x.1 < y.1 → y.1 < z.1 → bcN (b2N a x.1 ||| b2N b y.1 ||| b2N c z.1) = (a.toNat + b.toNat + c.toNat : Nat) := by decide +kernel
theorem b2_test (b : Bool) (x i : Nat) : (b2N b x).testBit i = (b && decide (i = x)) := by
  cases b
  · exact Nat.zero_testBit i
  · show (2 ^ x).testBit i = (true && decide (i = x))
    rw [p2_test, Bool.true_and]
theorem m3_and {x y z M : Nat} : m3 x y z &&& M = b2N (M.testBit x) x ||| b2N (M.testBit y) y ||| b2N (M.testBit z) z := by
  apply Nat.eq_of_testBit_eq
  intro i
  rw [Nat.testBit_and, Nat.testBit_or, Nat.testBit_or, b2_test, b2_test, b2_test, m3_test]
  have q : ∀ w, (M.testBit w && decide (i = w)) = (decide (i = w) && M.testBit i) := fun w => by
    by_cases e : i = w
    · subst e; simp
    · simp [e]
  rw [q, q, q, ← Bool.and_or_distrib_right, ← Bool.and_or_distrib_right]
  congr 1
  by_cases h1 : i = x <;> by_cases h2 : i = y <;> by_cases h3 : i = z <;> simp [h1, h2, h3]
/-- how many points of a triple are in a set -/
theorem bc_and {x y z M : Nat} (h1 : x < y) (h2 : y < z) (h3 : z < 15) : bcN (m3 x y z &&& M) = ((M.testBit x).toNat + (M.testBit y).toNat + (M.testBit z).toNat : Nat) := by
  rw [m3_and]
  exact bc_sub ⟨x, by omega⟩ ⟨y, by omega⟩ ⟨z, h3⟩ _ _ _ h1 h2
/-- two points of the set on a covered pair: the pair's triple has two points of it -/
theorem mtB_2 {V : Nat} {T : sT} (hT : sOk V T) {u v M : Nat} (h : ¬ T u v = -1) (hu : M.testBit u = true) (hv : M.testBit v = true) : mtB T M 2 (cd T u v) = true := by
  obtain ⟨g1, g2, g3⟩ := cd_of hT h
  obtain ⟨z, ez, h1, h2, h3⟩ := tr_pts hT g1
  have hV := hT.2.1
  unfold mtB mk3
  rw [decide_eq_true_iff]
  rw [ez, Int.toNat_natCast] at g3 ⊢
  rw [bc_and h1 h2 (by omega)]
  obtain ⟨d, e1, e2⟩ := g3
  have ha : ∀ {b : Bool}, b = true → b.toNat = 1 := fun h => by rw [h]; rfl
  have p1 := hu
  have p2 := hv
  rcases e1 with e1 | e1 | e1 <;> rcases e2 with e2 | e2 | e2 <;> first | exact absurd (e1.trans e2.symm) d | skip
  all_goals rw [e1] at p1; rw [e2] at p2; have q1 := ha p1; have q2 := ha p2; omega
/-- behind the drop the three pairs are free -/
theorem dP_free {V : Nat} {T : sT} (hT : sOk V T) {a b c : Nat} : sFree (dP (mtB T (m3 a b c) 2) T 225) a b c := by
  have hp : ∀ u v, (m3 a b c).testBit u = true → (m3 a b c).testBit v = true → dP (mtB T (m3 a b c) 2) T 225 u v = -1 := fun u v hu hv => by
    rcases (dP_s (B := mtB T (m3 a b c) 2) hT 225).2 u v with g | g
    · exact g.1
    · exact absurd ⟨cd_lt hT g.2.1, mtB_2 hT g.2.1 hu hv⟩ g.2.2
  have t : ∀ i, (i = a ∨ i = b ∨ i = c) → (m3 a b c).testBit i = true := fun i hi => by rw [m3_test]; exact decide_eq_true hi
  exact ⟨hp _ _ (t a (by simp)) (t b (by simp)), hp _ _ (t b (by simp)) (t c (by simp)), hp _ _ (t a (by simp)) (t c (by simp))⟩
/-- what forcing brings -/
def fcT (T : sT) (a b c : Nat) : sT := sPut (dP (mtB T (m3 a b c) 2) T 225) a b c
theorem k_170E {d V n : Nat} {h : Nat → sR} {sv : Option sR} {T : sT} {ty : Nat → Int} {hp : amH} {R : xQ} {a b c : Int32} (hH : bHk 84 bTT hp) (hS : clS hp (V, T, ty) n h sv)
    (hT : ∀ E, ¬ fCd V T a.toInt b.toInt c.toInt = 0 → exE (fCd V T a.toInt b.toInt c.toInt) E → R (.inr E) hp)
    (hR : ∀ (z : Int32) hp1, bHk 84 bTT hp1 → cF hp hp1 → fCd V T a.toInt b.toInt c.toInt = 0 → clS hp1 (V, fcT T a.toInt.toNat b.toInt.toNat c.toInt.toNat, ty) (pM n + 1) (pH n h (V, T, ty)) sv → z.toInt + (((trL (dP (mtB T (m3 a.toInt.toNat b.toInt.toNat c.toInt.toNat) 2) T 225) 225).length : Nat) : Int) = (((trL T 225).length : Nat) : Int) → R (.inl (some (.int z))) hp1) : xK (d + 6) 170 [.ref 0, .int a, .int b, .int c] hp R := by
  have hB : bdOk hp 3 V T := hS.1
  have hV := hB.2.1.2.1
  refine xin (M := am_m170) rfl rfl rfl ?_
  refine xald 1 ⟨u170, _, rfl⟩ rfl rfl ?_
  refine xild 2 ⟨u170, _, rfl⟩ rfl rfl ?_
  refine xild 3 ⟨u170, _, rfl⟩ rfl rfl ?_
  refine xild 4 ⟨u170, _, rfl⟩ rfl rfl ?_
  refine xcallT 7 (o := 0) [.int _, .int _, .int _] [] hH ⟨u170, _, rfl⟩ rfl rfl (by decide) rfl (by decide) rfl ⟨rfl, rfl, rfl, rfl⟩ rfl (k_rq3 hH hB.1 (fun g4 => Or.inl ⟨_, rfl, ?_⟩) (fun g4 => Or.inr ⟨_, rfl, rfl, hT 1 (by rw [fCd_1 (by omega)]; omega) (by rw [fCd_1 (by omega)]; exact Or.inl ⟨g4, rfl⟩)⟩) (fun g4 => Or.inr ⟨_, rfl, rfl, hT 0 (by rw [fCd_1 (by omega)]; omega) (by rw [fCd_1 (by omega)]; exact Or.inr (Or.inl ⟨g4, rfl⟩))⟩))
  have k4 := gSet_0.mp g4
  refine xild 8 ⟨u170, _, rfl⟩ rfl rfl ?_
  refine xild 9 ⟨u170, _, rfl⟩ rfl rfl ?_
  refine xild 10 ⟨u170, _, rfl⟩ rfl rfl ?_
  refine xcallS 13 [.int _, .int _, .int _] [] hH ⟨u170, _, rfl⟩ rfl rfl rfl rfl rfl (k_three (x := a.toInt.toNat) (y := b.toInt.toNat) (z := c.toInt.toNat) (by omega) (by omega) (by omega) (by omega) (by omega) (by omega) (fun z10 h10 => ⟨_, rfl, ?_⟩))
  refine xist2 15 ⟨u170, _, rfl⟩ rfl rfl ?_
  refine xald 16 ⟨u170, _, rfl⟩ rfl rfl ?_
  refine xgetD 19 (3) hH ⟨u170, _, rfl⟩ rfl (by decide) (by decide) rfl rfl (by decide) ?_
  refine xild2 21 ⟨u170, _, rfl⟩ rfl rfl ?_
  refine xcallC 24 (o := 3) [.int _] [] hH ⟨u170, _, rfl⟩ rfl rfl (by decide) rfl (by decide) rfl ⟨rfl, rfl, rfl, rfl⟩ rfl (k_hld (o := 3) (Or.inl rfl) hH hB (a := a.toInt.toNat) (b := b.toInt.toNat) (c := c.toInt.toNat) h10 (by omega) (by omega) (by omega) (by omega) (by omega) (by omega) (fun z21 h21 => ⟨_, rfl, ?_⟩))
  refine xif_eq 27 ⟨u170, _, rfl⟩ rfl (fun c24 => ?_) (fun c24 => ?_)
  · refine xald 39 ⟨u170, _, rfl⟩ rfl rfl ?_
    refine xcallC 42 (o := 0) [] [] hH ⟨u170, _, rfl⟩ rfl rfl (by decide) rfl (by decide) rfl ⟨rfl, rfl, rfl, rfl⟩ rfl (k_cmS hH hS (fun hp39 hH39 F39 S39 => ⟨_, rfl, ?_⟩))
    refine xald 43 ⟨u170, _, rfl⟩ rfl rfl ?_
    refine xgetD 46 (3) hH39 ⟨u170, _, rfl⟩ rfl (by decide) (by decide) rfl rfl (by decide) ?_
    refine xild2 48 ⟨u170, _, rfl⟩ rfl rfl ?_
    refine xcst 49 (2) ⟨u170, _, rfl⟩ rfl (by decide) (fun z48 h48 => ?_)
    refine xcallC 52 (o := 3) [.int _, .int _] [] hH39 ⟨u170, _, rfl⟩ rfl rfl (by decide) rfl (by decide) rfl ⟨rfl, rfl, rfl, rfl⟩ rfl (k_27E hH39 (V := V) (T := T) (m := m3 a.toInt.toNat b.toInt.toNat c.toInt.toNat) S39.1 S39.2.1 h10 (m3_lt (by omega) (by omega) (by omega)) (fun z49 hp49 hH49 F49 B49 e49 => ⟨_, rfl, ?_⟩))
    rw [h48] at B49 e49
    refine xist2 54 ⟨u170, _, rfl⟩ rfl rfl ?_
    refine xald 55 ⟨u170, _, rfl⟩ rfl rfl ?_
    refine xgetD 58 (3) hH49 ⟨u170, _, rfl⟩ rfl (by decide) (by decide) rfl rfl (by decide) ?_
    refine xild2 60 ⟨u170, _, rfl⟩ rfl rfl ?_
    refine xcallC 63 (o := 3) [.int _] [] hH49 ⟨u170, _, rfl⟩ rfl rfl (by decide) rfl (by decide) rfl ⟨rfl, rfl, rfl, rfl⟩ rfl (k_bputU (o := 3) (Or.inl rfl) hH49 B49 (a := a.toInt.toNat) (b := b.toInt.toNat) (c := c.toInt.toNat) h10 (by show _ < V; omega) (by show _ < V; omega) (by show _ < V; omega) (by omega) (by omega) (by omega) (dP_free hB.2.1) (fun hp60 hH60 F60 B60 => ⟨_, rfl, ?_⟩))
    refine xald 64 ⟨u170, _, rfl⟩ rfl rfl ?_
    refine xcallC 67 (o := 0) [] [] hH60 ⟨u170, _, rfl⟩ rfl rfl (by decide) rfl (by decide) rfl ⟨rfl, rfl, rfl, rfl⟩ rfl (k_stS hH60 (V := V) (T := fcT T a.toInt.toNat b.toInt.toNat c.toInt.toNat) (ty := ty) B60 (fun i hi => (bFx_n F60 (by simp)).trans ((bFx_n F49 (by simp)).trans (S39.2.2.2.1 i hi))) (hyC_fr S39.2.2.2.2 (fun c k c1 c2 => (F60 c k (by simp; omega)).trans (F49 c k (by simp; omega)))) (fun hp64 hH64 F64 S64 => ⟨_, rfl, ?_⟩))
    refine xild2 69 ⟨u170, _, rfl⟩ rfl rfl ?_
    exact xret ⟨u170, _, rfl⟩ rfl (hR _ hp64 hH64 ((cF_hy F39).trans ((cF_x F49 (by simp)).trans ((cF_x F60 (by simp)).trans (cF_x F64 (by simp))))) (fCd_2 g4 (by omega)) S64 e49)
  · exact xthr ⟨u170, _, rfl⟩ (by decide) rfl (by decide) (hT 2 (by rw [fCd_3 g4 (by omega)]; decide) (by rw [fCd_3 g4 (by omega)]; exact Or.inr (Or.inr ⟨rfl, rfl⟩)))
