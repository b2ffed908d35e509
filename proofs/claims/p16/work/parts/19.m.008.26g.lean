/-! ##### 19.m.008.26g ##### -/
section
/-! ===== the class's boards: triples in any order; all turns ===== -/
/-- three points in their order -/
theorem srt {a b c : Nat} (hab : ¬ a = b) (hbc : ¬ b = c) (hac : ¬ a = c) : ∃ x y z : Nat, x < y ∧ y < z ∧ m3 a b c = m3 x y z ∧ (∀ T : sT, sPut T a b c = sPut T x y z) ∧ (∀ T : sT, (∀ u v, T u v = -1 → T v u = -1) → (sFree T a b c ↔ sFree T x y z)) ∧ (∀ P : Nat → Prop, P a → P b → P c → P x ∧ P y ∧ P z) ∧ (∀ i, (i = a ∨ i = b ∨ i = c) ↔ (i = x ∨ i = y ∨ i = z)) := by
  have go : ∀ x y z : Nat, x < y → y < z → (∀ i, (i = a ∨ i = b ∨ i = c) ↔ (i = x ∨ i = y ∨ i = z)) → ((a : Int) + b + c = x + y + z) → (∀ T : sT, (∀ u v, T u v = -1 → T v u = -1) → (sFree T a b c ↔ sFree T x y z)) → (∀ P : Nat → Prop, P a → P b → P c → P x ∧ P y ∧ P z) → ∃ x y z : Nat, x < y ∧ y < z ∧ m3 a b c = m3 x y z ∧ (∀ T : sT, sPut T a b c = sPut T x y z) ∧ (∀ T : sT, (∀ u v, T u v = -1 → T v u = -1) → (sFree T a b c ↔ sFree T x y z)) ∧ (∀ P : Nat → Prop, P a → P b → P c → P x ∧ P y ∧ P z) ∧ (∀ i, (i = a ∨ i = b ∨ i = c) ↔ (i = x ∨ i = y ∨ i = z)) := by
    intro x y z h1 h2 h3 h4 h5 h6
    refine ⟨x, y, z, h1, h2, ?_, fun T => ?_, h5, h6, h3⟩
    · apply Nat.eq_of_testBit_eq
      intro i
      rw [m3_test, m3_test, decide_eq_decide]
      exact h3 i
    · funext u v
      unfold sPut
      have e : sPr a b c u v ↔ sPr x y z u v := by unfold sPr; rw [h3 u, h3 v]
      by_cases g : sPr a b c u v
      · rw [if_pos g, if_pos (e.mp g)]; omega
      · rw [if_neg g, if_neg (fun z => g (e.mpr z))]
  have sf : ∀ (T : sT), (∀ u v, T u v = -1 → T v u = -1) → ∀ u v, (T u v = -1) = (T v u = -1) := fun T hT u v => propext ⟨hT u v, hT v u⟩
  rcases Nat.lt_or_gt_of_ne hab with h1 | h1
  · rcases Nat.lt_or_gt_of_ne hbc with h2 | h2
    · exact go a b c h1 h2 (fun i => Iff.rfl) (by omega) (fun T hT => Iff.rfl) (fun P p1 p2 p3 => ⟨p1, p2, p3⟩)
    · rcases Nat.lt_or_gt_of_ne hac with h3 | h3
      · exact go a c b h3 h2 (fun i => by omega) (by omega) (fun T hT => ⟨fun g => ⟨g.2.2, hT _ _ g.2.1, g.1⟩, fun g => ⟨g.2.2, hT _ _ g.2.1, g.1⟩⟩) (fun P p1 p2 p3 => ⟨p1, p3, p2⟩)
      · exact go c a b h3 h1 (fun i => by omega) (by omega) (fun T hT => ⟨fun g => ⟨hT _ _ g.2.2, g.1, hT _ _ g.2.1⟩, fun g => ⟨g.2.1, hT _ _ g.2.2, hT _ _ g.1⟩⟩) (fun P p1 p2 p3 => ⟨p3, p1, p2⟩)
  · rcases Nat.lt_or_gt_of_ne hac with h2 | h2
    · exact go b a c h1 h2 (fun i => by omega) (by omega) (fun T hT => ⟨fun g => ⟨hT _ _ g.1, g.2.2, g.2.1⟩, fun g => ⟨hT _ _ g.1, g.2.2, g.2.1⟩⟩) (fun P p1 p2 p3 => ⟨p2, p1, p3⟩)
    · rcases Nat.lt_or_gt_of_ne hbc with h3 | h3
      · exact go b c a h3 h2 (fun i => by omega) (by omega) (fun T hT => ⟨fun g => ⟨g.2.1, hT _ _ g.2.2, hT _ _ g.1⟩, fun g => ⟨hT _ _ g.2.2, g.1, hT _ _ g.2.1⟩⟩) (fun P p1 p2 p3 => ⟨p2, p3, p1⟩)
      · exact go c b a h3 h1 (fun i => by omega) (by omega) (fun T hT => ⟨fun g => ⟨hT _ _ g.2.1, hT _ _ g.1, hT _ _ g.2.2⟩, fun g => ⟨hT _ _ g.2.1, hT _ _ g.1, hT _ _ g.2.2⟩⟩) (fun P p1 p2 p3 => ⟨p3, p2, p1⟩)
theorem k_takU {d : Nat} {hp : amH} {R : xQ} {o V a b c : Nat} {T : sT} {s : Int32} (ho : bo o) (hH : bHk 84 bTT hp) (hB : bdOk hp o V T) (hs : s.toInt = ((m3 a b c : Nat) : Int)) (ha : a < V) (hb : b < V) (hc : c < V) (hab : ¬ a = b) (hbc : ¬ b = c) (hac : ¬ a = c) (hR : ∀ r : Int32, ((r.toInt = 1 ∧ sFree T a b c) ∨ (r.toInt = 0 ∧ ¬ sFree T a b c)) → R (.inl (some (.int r))) hp) : xK (d + 2) 13 [.ref o, .int s] hp R := by
  obtain ⟨x, y, z, g1, g2, g3, g4, g5, g6, -⟩ := srt hab hbc hac
  have f := g5 T (fun u v e => sy_free hB.2.1 e)
  obtain ⟨-, -, l3⟩ := g6 (fun i => i < V) ha hb hc
  exact k_tak ho hH hB (by rw [hs, g3]) g1 g2 l3 (fun r h => hR r (by rw [f]; exact h))
theorem k_bputU {d : Nat} {hp : amH} {R : xQ} {o V a b c : Nat} {T : sT} {s : Int32} (ho : bo o) (hH : bHk 84 bTT hp) (hB : bdOk hp o V T) (hs : s.toInt = ((m3 a b c : Nat) : Int)) (ha : a < V) (hb : b < V) (hc : c < V) (hab : ¬ a = b) (hbc : ¬ b = c) (hac : ¬ a = c) (hf : sFree T a b c)
    (hR : ∀ hp1, bHk 84 bTT hp1 → bFx [o + 1, o + 3] hp hp1 → bdOk hp1 o V (sPut T a b c) → R (.inl none) hp1) : xK (d + 2) 14 [.ref o, .int s] hp R := by
  obtain ⟨x, y, z, g1, g2, g3, g4, g5, g6, -⟩ := srt hab hbc hac
  have f := g5 T (fun u v e => sy_free hB.2.1 e)
  obtain ⟨-, -, l3⟩ := g6 (fun i => i < V) ha hb hc
  rw [g4 T] at hR
  exact k_bput ho hH hB (by rw [hs, g3]) g1 g2 l3 (f.mp hf) hR
theorem md_ne {V k p q : Nat} (hp : p < V) (hq : q < V) (h : ¬ p = q) : ¬ (p + k) % V = (q + k) % V := by
  intro e
  have e1 := Nat.div_add_mod (p + k) V
  have e2 := Nat.div_add_mod (q + k) V
  rw [e] at e1
  have : V * ((p + k) / V) + q = V * ((q + k) / V) + p := by omega
  rcases Nat.lt_trichotomy ((p + k) / V) ((q + k) / V) with g | g | g
  · have : V * ((p + k) / V + 1) ≤ V * ((q + k) / V) := Nat.mul_le_mul_left V g
    rw [Nat.mul_add] at this
    omega
  · rw [g] at this; omega
  · have : V * ((q + k) / V + 1) ≤ V * ((p + k) / V) := Nat.mul_le_mul_left V g
    rw [Nat.mul_add] at this
    omega
/-- all turns of a triple -/
theorem l21 {d : Nat} {hp0 : amH} {R : xQ} {o V a b c : Nat} {s : Int32} (ho : bo o) (hs : s.toInt = ((m3 a b c : Nat) : Int)) (ha : a < V) (hb : b < V) (hc : c < V) (hab : ¬ a = b) (hbc : ¬ b = c) (hac : ¬ a = c)
    {X : Option (sT × Nat)} (hR : ∀ (r : Int32) hp1, bHk 84 bTT hp1 → bFx [o + 1, o + 3] hp0 hp1 → (match X with
      | none => r.toInt = -1
      | some q => r.toInt = (q.2 : Int) ∧ bdOk hp1 o V q.1) → R (.inl (some (.int r))) hp1) :
    ∀ (f k n : Nat) (T : sT) (hp : amH) (m i : Int32) (v : Option Value), bHk 84 bTT hp → bFx [o + 1, o + 3] hp0 hp → bdOk hp o V T → f + k = V → n ≤ k → m.toInt = (n : Int) → i.toInt = (k : Int) → sDv V a b c f k T n = X → xV (d + 3) am_m21 4 [some (.ref o), some (.int s), some (.int m), some (.int i), v] [] hp R := by
  intro f
  induction f with
  | zero =>
    intro k n T hp m i v hH hF hB hk hn hm hi hX
    have hV := hB.2.1.2.1
    have b1 := hB.1
    have hX : some (T, n) = X := hX
    subst hX
    refine xild 5 ⟨u21, _, rfl⟩ rfl rfl ?_
    refine xald 6 ⟨u21, _, rfl⟩ rfl rfl ?_
    refine xgetC 9 hH ⟨u21, _, rfl⟩ rfl (bo_lt ho) (by decide) (bo_T ho) rfl (by decide) (fun z6 h6 => ?_)
    refine xcmp_ge 12 ⟨u21, _, rfl⟩ rfl (fun c9 => ?_) (fun c9 => ?_)
    · refine xild 63 ⟨u21, _, rfl⟩ rfl rfl ?_
      exact xret ⟨u21, _, rfl⟩ rfl (hR _ hp hH hF ⟨hm, hB⟩)
    · omega
  | succ f ih =>
    intro k n T hp m i v hH hF hB hk hn hm hi hX
    have hV := hB.2.1.2.1
    have b1 := hB.1
    have hlt := m3_lt (x := a) (y := b) (z := c) (by omega) (by omega) (by omega)
    have hrot := rot_m3 (V := V) (k := k) hV (by omega) ha hb hc
    unfold sDv at hX
    refine xild 5 ⟨u21, _, rfl⟩ rfl rfl ?_
    refine xald 6 ⟨u21, _, rfl⟩ rfl rfl ?_
    refine xgetC 9 hH ⟨u21, _, rfl⟩ rfl (bo_lt ho) (by decide) (bo_T ho) rfl (by decide) (fun z6 h6 => ?_)
    refine xcmp_ge 12 ⟨u21, _, rfl⟩ rfl (fun c9 => ?_) (fun c9 => ?_)
    · omega
    · refine xild 13 ⟨u21, _, rfl⟩ rfl rfl ?_
      refine xild 14 ⟨u21, _, rfl⟩ rfl rfl ?_
      refine xald 15 ⟨u21, _, rfl⟩ rfl rfl ?_
      refine xgetC 18 hH ⟨u21, _, rfl⟩ rfl (bo_lt ho) (by decide) (bo_T ho) rfl (by decide) (fun z15 h15 => ?_)
      refine xcallS 21 [.int _, .int _, .int _] [] hH ⟨u21, _, rfl⟩ rfl rfl rfl rfl rfl (k_rot hs hlt hi (h15.trans b1) (by omega) hV (fun z18 h18 => ⟨_, rfl, ?_⟩))
      refine xist2 23 ⟨u21, _, rfl⟩ rfl rfl ?_
      refine xild 24 ⟨u21, _, rfl⟩ rfl rfl ?_
      refine xif_le 27 ⟨u21, _, rfl⟩ rfl (fun c24 => ?_) (fun c24 => ?_)
      · rw [if_neg (by omega)] at hX
        refine xald 37 ⟨u21, _, rfl⟩ rfl rfl ?_
        refine xild2 39 ⟨u21, _, rfl⟩ rfl rfl ?_
        refine xcallC 42 (o := o) [.int _] [] hH ⟨u21, _, rfl⟩ rfl rfl (bo_lt ho) (bo_T ho) (by decide) rfl ⟨rfl, rfl, rfl, rfl⟩ rfl (k_takU ho hH hB (by rw [h18, hrot]) (Nat.mod_lt _ (by omega)) (Nat.mod_lt _ (by omega)) (Nat.mod_lt _ (by omega)) (md_ne ha hb hab) (md_ne hb hc hbc) (md_ne ha hc hac) (fun z39 h39 => ⟨_, rfl, ?_⟩))
        refine xif_ne 45 ⟨u21, _, rfl⟩ rfl (fun c42 => ?_) (fun c42 => ?_)
        · have fr : sFree T ((a + k) % V) ((b + k) % V) ((c + k) % V) := by rcases h39 with g | g; exact g.2; omega
          rw [if_pos fr] at hX
          refine xald 48 ⟨u21, _, rfl⟩ rfl rfl ?_
          refine xild2 50 ⟨u21, _, rfl⟩ rfl rfl ?_
          refine xcallC 53 (o := o) [.int _] [] hH ⟨u21, _, rfl⟩ rfl rfl (bo_lt ho) (bo_T ho) (by decide) rfl ⟨rfl, rfl, rfl, rfl⟩ rfl (k_bputU ho hH hB (by rw [h18, hrot]) (Nat.mod_lt _ (by omega)) (Nat.mod_lt _ (by omega)) (Nat.mod_lt _ (by omega)) (md_ne ha hb hab) (md_ne hb hc hbc) (md_ne ha hc hac) fr (fun hp50 hH50 F50 B50 => ⟨_, rfl, ?_⟩))
          refine xinc 56 (1) ⟨u21, _, rfl⟩ rfl rfl rfl (by decide) (by omega) (by omega) (fun z53 h53 => ?_)
          refine xinc 59 (1) ⟨u21, _, rfl⟩ rfl rfl rfl (by decide) (by omega) (by omega) (fun z56 h56 => ?_)
          refine xgoto ⟨u21, _, rfl⟩ ?_
          exact ih (k + 1) (n + 1) _ hp50 _ _ _ hH50 (hF.trans F50) B50 (by omega) (by omega) (by omega) (by omega) hX
        · refine xcst 46 (-1) ⟨u21, _, rfl⟩ rfl (by decide) (fun z45 h45 => ?_)
          have nf : ¬ sFree T ((a + k) % V) ((b + k) % V) ((c + k) % V) := by rcases h39 with g | g; omega; exact g.2
          rw [if_neg nf] at hX
          subst hX
          exact xret ⟨u21, _, rfl⟩ rfl (hR _ hp hH hF h45)
      · refine xild2 29 ⟨u21, _, rfl⟩ rfl rfl ?_
        refine xild 30 ⟨u21, _, rfl⟩ rfl rfl ?_
        refine xcmp_ne 33 ⟨u21, _, rfl⟩ rfl (fun c30 => ?_) (fun c30 => ?_)
        · rw [if_neg (fun z => c30 (by rw [h18, hrot, hs, z.2]))] at hX
          refine xald 37 ⟨u21, _, rfl⟩ rfl rfl ?_
          refine xild2 39 ⟨u21, _, rfl⟩ rfl rfl ?_
          refine xcallC 42 (o := o) [.int _] [] hH ⟨u21, _, rfl⟩ rfl rfl (bo_lt ho) (bo_T ho) (by decide) rfl ⟨rfl, rfl, rfl, rfl⟩ rfl (k_takU ho hH hB (by rw [h18, hrot]) (Nat.mod_lt _ (by omega)) (Nat.mod_lt _ (by omega)) (Nat.mod_lt _ (by omega)) (md_ne ha hb hab) (md_ne hb hc hbc) (md_ne ha hc hac) (fun z39 h39 => ⟨_, rfl, ?_⟩))
          refine xif_ne 45 ⟨u21, _, rfl⟩ rfl (fun c42 => ?_) (fun c42 => ?_)
          · have fr : sFree T ((a + k) % V) ((b + k) % V) ((c + k) % V) := by rcases h39 with g | g; exact g.2; omega
            rw [if_pos fr] at hX
            refine xald 48 ⟨u21, _, rfl⟩ rfl rfl ?_
            refine xild2 50 ⟨u21, _, rfl⟩ rfl rfl ?_
            refine xcallC 53 (o := o) [.int _] [] hH ⟨u21, _, rfl⟩ rfl rfl (bo_lt ho) (bo_T ho) (by decide) rfl ⟨rfl, rfl, rfl, rfl⟩ rfl (k_bputU ho hH hB (by rw [h18, hrot]) (Nat.mod_lt _ (by omega)) (Nat.mod_lt _ (by omega)) (Nat.mod_lt _ (by omega)) (md_ne ha hb hab) (md_ne hb hc hbc) (md_ne ha hc hac) fr (fun hp50 hH50 F50 B50 => ⟨_, rfl, ?_⟩))
            refine xinc 56 (1) ⟨u21, _, rfl⟩ rfl rfl rfl (by decide) (by omega) (by omega) (fun z53 h53 => ?_)
            refine xinc 59 (1) ⟨u21, _, rfl⟩ rfl rfl rfl (by decide) (by omega) (by omega) (fun z56 h56 => ?_)
            refine xgoto ⟨u21, _, rfl⟩ ?_
            exact ih (k + 1) (n + 1) _ hp50 _ _ _ hH50 (hF.trans F50) B50 (by omega) (by omega) (by omega) (by omega) hX
          · refine xcst 46 (-1) ⟨u21, _, rfl⟩ rfl (by decide) (fun z45 h45 => ?_)
            have nf : ¬ sFree T ((a + k) % V) ((b + k) % V) ((c + k) % V) := by rcases h39 with g | g; omega; exact g.2
            rw [if_neg nf] at hX
            subst hX
            exact xret ⟨u21, _, rfl⟩ rfl (hR _ hp hH hF h45)
        · refine xgoto ⟨u21, _, rfl⟩ ?_
          refine xild 63 ⟨u21, _, rfl⟩ rfl rfl ?_
          rw [if_pos ⟨by omega, by rw [← hrot]; omega⟩] at hX
          subst hX
          exact xret ⟨u21, _, rfl⟩ rfl (hR _ hp hH hF ⟨hm, hB⟩)
theorem k_pat {d : Nat} {hp : amH} {R : xQ} {o V a b c : Nat} {T : sT} {s : Int32} (ho : bo o) (hH : bHk 84 bTT hp) (hB : bdOk hp o V T) (hs : s.toInt = ((m3 a b c : Nat) : Int)) (ha : a < V) (hb : b < V) (hc : c < V) (hab : ¬ a = b) (hbc : ¬ b = c) (hac : ¬ a = c)
    (hR : ∀ (r : Int32) hp1, bHk 84 bTT hp1 → bFx [o + 1, o + 3] hp hp1 → (match sDv V a b c V 0 T 0 with
      | none => r.toInt = -1
      | some q => r.toInt = (q.2 : Int) ∧ bdOk hp1 o V q.1) → R (.inl (some (.int r))) hp1) : xK (d + 3) 21 [.ref o, .int s] hp R := by
  refine xin (M := am_m21) rfl rfl (by unfold xAv; simp [amOk, bo_lt ho, Value.category]) ?_
  refine xcst 1 (0) ⟨u21, _, rfl⟩ rfl (by decide) (fun z0 h0 => ?_)
  refine xist 2 ⟨u21, _, rfl⟩ rfl rfl ?_
  refine xcst 3 (0) ⟨u21, _, rfl⟩ rfl (by decide) (fun z2 h2 => ?_)
  refine xist 4 ⟨u21, _, rfl⟩ rfl rfl ?_
  refine xpad 1 ?_
  exact l21 ho hs ha hb hc hab hbc hac hR V 0 0 T hp _ _ _ hH bFx.refl hB (by omega) (by omega) (by omega) (by omega) rfl
end
/-! ##### 19.m.009.26h ##### -/
section
/-! ===== the class's boards: laid empty ===== -/
theorem op_E {V p : Nat} (hV : V ≤ 15) : opN V sE p = if p < V then ndif (2 ^ V - 1) (2 ^ p) else 0 := by
  apply Nat.eq_of_testBit_eq
  intro i
  rw [op_test hV]
  split
  · next h =>
    rw [nd_test, p2_test, Nat.testBit_two_pow_sub_one]
    by_cases e : i = p
    · subst e; simp
    · have e2 : ¬ p = i := fun z => e z.symm
      simp [h, e, e2, sE]
  · next h => rw [decide_eq_false (by omega), Nat.zero_testBit]
theorem l1b {d : Nat} {hp0 : amH} {R : xQ} {o V : Nat} {a : Int32} {v : Option Value} (ho : bo o) (hV : V ≤ 15) (hV3 : 3 ≤ V) (hR : ∀ hp1, bHk 84 bTT hp1 → bFx [o, o + 1, o + 3] hp0 hp1 → bdOk hp1 o V sE → rN hp1 o 1 = 0 → R (.inl none) hp1) :
    ∀ (jj q : Nat) (i : Int32) (hp : amH), bHk 84 bTT hp → bFx [o, o + 1, o + 3] hp0 hp → rN hp o 0 = (V : Int) → rN hp o 1 = 0 → (∀ j, j < 225 → rN hp (o + 1) j = -1) → (∀ p, p < q → rN hp (o + 3) p = ((opN V sE p : Nat) : Int)) → i.toInt = (q : Int) → q + jj = 15 → xV (d + 1) am_m1 45 [some (.ref o), some (.int a), some (.int i)] [] hp R := by
  intro jj
  induction jj with
  | zero =>
    intro q i hp hH hF h0 h1 h2 h3 hi hq
    refine xild 46 ⟨u1, _, rfl⟩ rfl rfl ?_
    refine xald 47 ⟨u1, _, rfl⟩ rfl rfl ?_
    refine xgetD 50 (o + 3) hH ⟨u1, _, rfl⟩ rfl (bo_lt ho) (by decide) (bo_T ho) rfl (by decide) ?_
    refine xlen 51 hH ⟨u1, _, rfl⟩ rfl (bo_lt3 ho) (bo_T3 ho) (by decide) (by decide) (fun z50 h50 => ?_)
    refine xcmp_ge 54 ⟨u1, _, rfl⟩ rfl (fun c51 => ?_) (fun c51 => ?_)
    · exact xretV ⟨u1, _, rfl⟩ rfl (hR hp hH hF ⟨h0, sOk_E hV3 hV, fun u v hu hv => by rw [h2 _ (by omega)]; rfl, fun u v _ => rfl, fun p hp => h3 p (by omega)⟩ h1)
    · omega
  | succ jj ih =>
    intro q i hp hH hF h0 h1 h2 h3 hi hq
    have oE := op_E (p := q) hV
    have ol := op_lt V sE q
    have hsl := (i_shlV (o := 1) (c := 0) (V := 0) rfl rfl (by decide))
    have hp15 : 2 ^ V - 1 < 32768 := by
      have : 2 ^ V ≤ 2 ^ 15 := Nat.pow_le_pow_right (by decide) hV
      omega
    refine xild 46 ⟨u1, _, rfl⟩ rfl rfl ?_
    refine xald 47 ⟨u1, _, rfl⟩ rfl rfl ?_
    refine xgetD 50 (o + 3) hH ⟨u1, _, rfl⟩ rfl (bo_lt ho) (by decide) (bo_T ho) rfl (by decide) ?_
    refine xlen 51 hH ⟨u1, _, rfl⟩ rfl (bo_lt3 ho) (bo_T3 ho) (by decide) (by decide) (fun z50 h50 => ?_)
    refine xcmp_ge 54 ⟨u1, _, rfl⟩ rfl (fun c51 => ?_) (fun c51 => ?_)
    · omega
    · refine xald 55 ⟨u1, _, rfl⟩ rfl rfl ?_
      refine xgetD 58 (o + 3) hH ⟨u1, _, rfl⟩ rfl (bo_lt ho) (by decide) (bo_T ho) rfl (by decide) ?_
      refine xild 59 ⟨u1, _, rfl⟩ rfl rfl ?_
      refine xild 60 ⟨u1, _, rfl⟩ rfl rfl ?_
      refine xald 61 ⟨u1, _, rfl⟩ rfl rfl ?_
      refine xgetC 64 hH ⟨u1, _, rfl⟩ rfl (bo_lt ho) (by decide) (bo_T ho) rfl (by decide) (fun z61 h61 => ?_)
      refine xcmp_ge 67 ⟨u1, _, rfl⟩ rfl (fun c64 => ?_) (fun c64 => ?_)
      · rw [if_neg (by omega)] at oE
        refine xcst 81 (0) ⟨u1, _, rfl⟩ rfl (by decide) (fun z80 h80 => ?_)
        refine xiast 82 (i).toInt.toNat hH ⟨u1, _, rfl⟩ rfl (bo_lt3 ho) (bo_T3 ho) (by omega) (by omega) (by omega) (by omega) (fun hp81 hH81 U81 => ?_)
        have s81 := U81.1
        refine xinc 85 (1) ⟨u1, _, rfl⟩ rfl rfl rfl (by decide) (by omega) (by omega) (fun z82 h82 => ?_)
        refine xgoto ⟨u1, _, rfl⟩ ?_
        exact ih (q + 1) _ hp81 hH81 (hF.trans (bFx_U U81 (by simp))) (by rw [rU_ne U81 (by omega)]; exact h0) (by rw [rU_ne U81 (by omega)]; exact h1) (fun j hj => by rw [rU_ne U81 (by omega)]; exact h2 j hj) (fun p hp => by rcases Nat.lt_or_ge p q with g | g; rw [rU_ne U81 (by omega)]; exact h3 p g; rw [show p = q by omega]; have e := U81.1; rw [show i.toInt.toNat = q by omega] at e; rw [e]; omega) (by omega) (by omega)
      · rw [if_pos (by omega)] at oE
        refine xald 68 ⟨u1, _, rfl⟩ rfl rfl ?_
        refine xcallC 71 (o := o) [] [.int _, .ref (o + 3)] hH ⟨u1, _, rfl⟩ rfl rfl (bo_lt ho) (bo_T ho) (by decide) rfl ⟨rfl, rfl, rfl, rfl⟩ (by simp [amOkS, amOk, bo_lt ho, bo_lt1 ho, bo_lt2 ho, bo_lt3 ho, bo_lt4 ho]) (k_all ho hH h0 (fun z68 h68 => ⟨_, rfl, ?_⟩))
        refine xcst 72 (1) ⟨u1, _, rfl⟩ rfl (by decide) (fun z71 h71 => ?_)
        refine xild 73 ⟨u1, _, rfl⟩ rfl rfl ?_
        refine xshl 74 ⟨u1, _, rfl⟩ rfl ?_
        refine xcst 75 (-1) ⟨u1, _, rfl⟩ rfl (by decide) (fun z74 h74 => ?_)
        refine xxor 76 ⟨u1, _, rfl⟩ rfl ?_
        refine xand 77 ⟨u1, _, rfl⟩ rfl ?_
        have w := i_nd h68 (i_shl (n := q) h71 (by omega) (by omega)).1 hp15 (by have := (i_shl (n := q) h71 (show i.toInt = (q : Int) by omega) (by omega)).2; omega) h74
        refine xgoto ⟨u1, _, rfl⟩ ?_
        refine xiast 82 (i).toInt.toNat hH ⟨u1, _, rfl⟩ rfl (bo_lt3 ho) (bo_T3 ho) (by omega) (by omega) (by omega) (by omega) (fun hp81 hH81 U81 => ?_)
        have s81 := U81.1
        refine xinc 85 (1) ⟨u1, _, rfl⟩ rfl rfl rfl (by decide) (by omega) (by omega) (fun z82 h82 => ?_)
        refine xgoto ⟨u1, _, rfl⟩ ?_
        exact ih (q + 1) _ hp81 hH81 (hF.trans (bFx_U U81 (by simp))) (by rw [rU_ne U81 (by omega)]; exact h0) (by rw [rU_ne U81 (by omega)]; exact h1) (fun j hj => by rw [rU_ne U81 (by omega)]; exact h2 j hj) (fun p hp => by rcases Nat.lt_or_ge p q with g | g; rw [rU_ne U81 (by omega)]; exact h3 p g; rw [show p = q by omega]; have e := U81.1; rw [show i.toInt.toNat = q by omega] at e; rw [e]; omega) (by omega) (by omega)
theorem l1a {d : Nat} {hp0 : amH} {R : xQ} {o V : Nat} {a : Int32} {v : Option Value} (ho : bo o) (hV : V ≤ 15) (hV3 : 3 ≤ V) (hR : ∀ hp1, bHk 84 bTT hp1 → bFx [o, o + 1, o + 3] hp0 hp1 → bdOk hp1 o V sE → rN hp1 o 1 = 0 → R (.inl none) hp1) :
    ∀ (jj q : Nat) (i : Int32) (hp : amH), bHk 84 bTT hp → bFx [o, o + 1, o + 3] hp0 hp → rN hp o 0 = (V : Int) → rN hp o 1 = 0 → (∀ j, j < q → rN hp (o + 1) j = -1) → i.toInt = (q : Int) → q + jj = 225 → xV (d + 1) am_m1 21 [some (.ref o), some (.int a), some (.int i)] [] hp R := by
  intro jj
  induction jj with
  | zero =>
    intro q i hp hH hF h0 h1 h2 hi hq
    refine xild 22 ⟨u1, _, rfl⟩ rfl rfl ?_
    refine xald 23 ⟨u1, _, rfl⟩ rfl rfl ?_
    refine xgetD 26 (o + 1) hH ⟨u1, _, rfl⟩ rfl (bo_lt ho) (by decide) (bo_T ho) rfl (by decide) ?_
    refine xlen 27 hH ⟨u1, _, rfl⟩ rfl (bo_lt1 ho) (bo_T1 ho) (by decide) (by decide) (fun z26 h26 => ?_)
    refine xcmp_ge 30 ⟨u1, _, rfl⟩ rfl (fun c27 => ?_) (fun c27 => ?_)
    · refine xcst 44 (0) ⟨u1, _, rfl⟩ rfl (by decide) (fun z43 h43 => ?_)
      refine xist 45 ⟨u1, _, rfl⟩ rfl rfl ?_
      exact l1b (v := v) ho hV hV3 hR 15 0 _ hp hH hF h0 h1 (fun j hj => h2 j (by omega)) (fun p hp => by omega) (by omega) (by omega)
    · omega
  | succ jj ih =>
    intro q i hp hH hF h0 h1 h2 hi hq
    refine xild 22 ⟨u1, _, rfl⟩ rfl rfl ?_
    refine xald 23 ⟨u1, _, rfl⟩ rfl rfl ?_
    refine xgetD 26 (o + 1) hH ⟨u1, _, rfl⟩ rfl (bo_lt ho) (by decide) (bo_T ho) rfl (by decide) ?_
    refine xlen 27 hH ⟨u1, _, rfl⟩ rfl (bo_lt1 ho) (bo_T1 ho) (by decide) (by decide) (fun z26 h26 => ?_)
    refine xcmp_ge 30 ⟨u1, _, rfl⟩ rfl (fun c27 => ?_) (fun c27 => ?_)
    · omega
    · refine xald 31 ⟨u1, _, rfl⟩ rfl rfl ?_
      refine xgetD 34 (o + 1) hH ⟨u1, _, rfl⟩ rfl (bo_lt ho) (by decide) (bo_T ho) rfl (by decide) ?_
      refine xild 35 ⟨u1, _, rfl⟩ rfl rfl ?_
      refine xcst 36 (-1) ⟨u1, _, rfl⟩ rfl (by decide) (fun z35 h35 => ?_)
      refine xiast 37 (i).toInt.toNat hH ⟨u1, _, rfl⟩ rfl (bo_lt1 ho) (bo_T1 ho) (by omega) (by omega) (by omega) (by omega) (fun hp36 hH36 U36 => ?_)
      have s36 := U36.1
      refine xinc 40 (1) ⟨u1, _, rfl⟩ rfl rfl rfl (by decide) (by omega) (by omega) (fun z37 h37 => ?_)
      refine xgoto ⟨u1, _, rfl⟩ ?_
      exact ih (q + 1) _ hp36 hH36 (hF.trans (bFx_U U36 (by simp))) (by rw [rU_ne U36 (by omega)]; exact h0) (by rw [rU_ne U36 (by omega)]; exact h1) (fun j hj => by rcases Nat.lt_or_ge j q with g | g; rw [rU_ne U36 (by omega)]; exact h2 j g; rw [show j = q by omega]; have e := U36.1; rw [show i.toInt.toNat = q by omega] at e; omega) (by omega) (by omega)
theorem k_rst {d : Nat} {hp : amH} {R : xQ} {o V : Nat} {a : Int32} (ho : bo o) (hH : bHk 84 bTT hp) (ha : a.toInt = (V : Int)) (hV3 : 3 ≤ V) (hV : V ≤ 15) (hR : ∀ hp1, bHk 84 bTT hp1 → bFx [o, o + 1, o + 3] hp hp1 → bdOk hp1 o V sE → rN hp1 o 1 = 0 → R (.inl none) hp1) : xK (d + 1) 1 [.ref o, .int a] hp R := by
  refine xin (M := am_m1) rfl rfl (by unfold xAv; simp [amOk, bo_lt ho, Value.category]) ?_
  refine xald 1 ⟨u1, _, rfl⟩ rfl rfl ?_
  refine xcst 2 (3) ⟨u1, _, rfl⟩ rfl (by decide) (fun z1 h1 => ?_)
  refine xild 3 ⟨u1, _, rfl⟩ rfl rfl ?_
  refine xbip 5 (15) ⟨u1, _, rfl⟩ rfl (by decide) (fun z3 h3 => ?_)
  refine xcallS 8 [.int _, .int _] [.int _, .ref (o)] hH ⟨u1, _, rfl⟩ rfl rfl rfl (by simp [amOkS, amOk, bo_lt ho, bo_lt1 ho, bo_lt2 ho, bo_lt3 ho, bo_lt4 ho]) rfl (k_min (fun z5 h5 => ⟨_, rfl, ?_⟩))
  refine xcallS 11 [.int _, .int _] [.ref (o)] hH ⟨u1, _, rfl⟩ rfl rfl rfl (by simp [amOkS, amOk, bo_lt ho, bo_lt1 ho, bo_lt2 ho, bo_lt3 ho, bo_lt4 ho]) rfl (k_max (fun z8 h8 => ⟨_, rfl, ?_⟩))
  refine xputC 14 hH ⟨u1, _, rfl⟩ rfl (bo_lt ho) (by decide) (bo_T ho) rfl (by decide) ⟨rfl, rfl⟩ (by omega) (by omega) (fun hp11 hH11 U11 => ?_)
  have s11 := U11.1
  have n11_o_1 : rN hp11 (o) 1 = rN hp (o) 1 := rU_ne U11 (by omega)
  refine xald 15 ⟨u1, _, rfl⟩ rfl rfl ?_
  refine xcst 16 (0) ⟨u1, _, rfl⟩ rfl (by decide) (fun z15 h15 => ?_)
  refine xputC 19 hH11 ⟨u1, _, rfl⟩ rfl (bo_lt ho) (by decide) (bo_T ho) rfl (by decide) ⟨rfl, rfl⟩ (by omega) (by omega) (fun hp16 hH16 U16 => ?_)
  have s16 := U16.1
  have n16_o_0 : rN hp16 (o) 0 = rN hp11 (o) 0 := rU_ne U16 (by omega)
  refine xcst 20 (0) ⟨u1, _, rfl⟩ rfl (by decide) (fun z19 h19 => ?_)
  refine xist 21 ⟨u1, _, rfl⟩ rfl rfl ?_
  exact l1a (v := none) ho hV hV3 hR 225 0 _ hp16 hH16 ((bFx_U U11 (by simp)).trans (bFx_U U16 (by simp))) (by omega) (by omega) (fun j hj => by omega) (by omega) (by omega)
end
/-! ##### 19.m.010.26i ##### -/
section
/-! ===== the class reads its points ===== -/
theorem u78 : bUp 0 am_m78.1 = true := by decide +kernel
theorem u79 : bUp 0 am_m79.1 = true := by decide +kernel
theorem u77 : bUp 0 am_m77.1 = true := by decide +kernel
/-- what reading writes -/
def pFr (hp hp1 : amH) : Prop := ∀ c k, ¬ ((c = 1 ∧ ¬ k = 0 ∧ ¬ k = 3) ∨ c = 8 ∨ c = 9 ∨ c = 11) → bFld hp1 c k = bFld hp c k
theorem pFr.refl {hp : amH} : pFr hp hp := fun _ _ _ => rfl
theorem pFr.trans {a b c : amH} (h1 : pFr a b) (h2 : pFr b c) : pFr a c := fun i k e => (h2 i k e).trans (h1 i k e)
theorem pFr_t {hp hp1 : amH} (F : bFr wCt hp hp1) : pFr hp hp1 := fun c k e => F c k (by
  by_cases h : c = 1
  · subst h
    have : k = 0 ∨ k = 3 := by omega
    rcases this with rfl | rfl <;> rfl
  · simp [bIn, wCt, show Nat.beq 1 c = false from by cases e : Nat.beq 1 c; rfl; exact absurd (Nat.eq_of_beq_eq_true e).symm h])
theorem pFr_f {hp hp1 : amH} (F : bFr wCf hp hp1) : pFr hp hp1 := fun c k e => F c k (by
  by_cases h : c = 1
  · subst h
    have : k = 0 ∨ k = 3 := by omega
    rcases this with rfl | rfl <;> rfl
  · simp [bIn, wCf, show Nat.beq 1 c = false from by cases e : Nat.beq 1 c; rfl; exact absurd (Nat.eq_of_beq_eq_true e).symm h])
theorem pFr_x {W : List Nat} {hp hp1 : amH} (F : bFx W hp hp1) (h : ∀ c ∈ W, c = 8 ∨ c = 9 ∨ c = 11) : pFr hp hp1 := fun c k e => F c k (fun z => e (Or.inr (h c z)))
theorem p_n {hp hp1 : amH} (F : pFr hp hp1) {c i : Nat} (h : ¬ ((c = 1 ∧ ¬ i = 0 ∧ ¬ i = 3) ∨ c = 8 ∨ c = 9 ∨ c = 11)) : rN hp1 c i = rN hp c i := rN_eq (F c i h)
theorem cB_p {hp hp1 : amH} (F : pFr hp hp1) : cB hp1 = cB hp := by
  funext k
  unfold cB
  rw [p_n F (by omega), p_n F (by omega)]
theorem tNum_1 {y : tY} {s : Nat} {lo hi : Int} {pre : List Int} (h : ¬ ckK y s = 2) : tNum y s lo hi pre = 1 := by
  unfold tNum
  rw [if_pos (fun z => h (ckK_2.mpr z))]
theorem tNum_2 {y : tY} {s : Nat} {lo hi : Int} {pre : List Int} (h : ckK y s = 2) (h2 : tV y s < lo ∨ hi < tV y s ∨ tV y s ∈ pre) : tNum y s lo hi pre = 2 := by
  unfold tNum
  rw [if_neg (fun z => z (ckK_2.mp h))]
  by_cases g : tV y s < lo ∨ hi < tV y s
  · rw [if_pos g]
  · rw [if_neg g, if_pos (by
      rcases h2 with z | z | z
      · exact absurd (Or.inl z) g
      · exact absurd (Or.inr z) g
      · exact z)]
theorem tNum_0 {y : tY} {s : Nat} {lo hi : Int} {pre : List Int} (h : ckK y s = 2) (h1 : lo ≤ tV y s) (h2 : tV y s ≤ hi) (h3 : ¬ tV y s ∈ pre) : tNum y s lo hi pre = 0 := by
  unfold tNum
  rw [if_neg (fun z => z (ckK_2.mp h)), if_neg (by omega), if_neg h3]
def rPt (y : tY) (s : Nat) (z : Int) (hp hp1 : amH) : Prop := match tPt y s with
  | .inl e => z = 0 ∧ rN hp1 1 1 = e.1 ∧ rN hp1 1 2 = (e.2 : Int)
  | .inr V => z = 1 ∧ 3 ≤ V ∧ V ≤ 15 ∧ bdOk hp1 8 V sE ∧ cT hp1 y (tN y (tN y (tN y s))) ∧ rN hp1 1 1 = rN hp 1 1 ∧ rN hp1 1 2 = rN hp 1 2
theorem rPt_e {y : tY} {s : Nat} {z : Int} {hp hp1 : amH} {c : Int} {q : Nat} (e : tPt y s = .inl (c, q)) (hz : z = 0) (h1 : rN hp1 1 1 = c) (h2 : rN hp1 1 2 = (q : Int)) : rPt y s z hp hp1 := by
  unfold rPt
  rw [e]
  exact ⟨hz, h1, h2⟩
theorem k_rdp {d : Nat} {hp : amH} {R : xQ} {y : tY} {s : Nat} (hH : bHk 84 bTT hp) (Y : cB hp = y) (T : cT hp y s) (hs : (s : Int) ≤ rN hp 1 0)
    (hR : ∀ (z : Int32) hp1, bHk 84 bTT hp1 → pFr hp hp1 → rPt y s z.toInt hp hp1 → R (.inl (some (.int z))) hp1) : xK (d + 3) 78 [.ref 1, .ref 8] hp R := by
  have hok : tOk (rN hp 1 0).toNat y := by rw [← Y]; exact cB_ok hH
  have b0 := b1_0 hH
  have w1 := tE_le hok (s := s) (by omega)
  have w2 := tN_le hok (s := s) (by omega)
  have w3 := tE_le hok (s := tN y s) (by omega)
  have w4 := tN_le hok (s := tN y s) (by omega)
  have w5 := tE_le hok (s := tN y (tN y s)) (by omega)
  refine xin (M := am_m78) rfl rfl rfl ?_
  have G := @pFr.refl hp
  have N : rN hp 1 0 = rN hp 1 0 := rfl
  refine xald 1 ⟨u78, _, rfl⟩ rfl rfl ?_
  refine xldcW 3 ⟨u78, _, rfl⟩ rfl ?_
  refine xcallC 6 (o := 1) [.ref 1000000] [] hH ⟨u78, _, rfl⟩ rfl rfl (by decide) rfl (by decide) rfl ⟨rfl, rfl, rfl, rfl⟩ rfl (k_cw (l := wPts) rfl ⟨rfl, by decide⟩ hH Y T (by omega) (fun z3 h3 => ⟨_, rfl, ?_⟩))
  refine xif_ne 9 ⟨u78, _, rfl⟩ rfl (fun c6 => ?_) (fun c6 => ?_)
  · have wT : ¬ ¬ tWd y s wPts = true := by rcases h3 with g | g; exact fun z => z g.2; omega
    refine xald 16 ⟨u78, _, rfl⟩ rfl rfl ?_
    refine xcallC 19 (o := 1) [] [] hH ⟨u78, _, rfl⟩ rfl rfl (by decide) rfl (by decide) rfl ⟨rfl, rfl, rfl, rfl⟩ rfl (k_cadv hH Y (p := tE y (s)) T.2.1 (by rw [N]; omega) (fun hp16 hH16 F16 Y16 T16 => ⟨_, rfl, ?_⟩))
    have T16 : cT hp16 y (tN y (s)) := T16
    have K16 : rN hp16 1 5 = ckK y (tN y (s)) := T16.2.2.1
    have G16 := G.trans (pFr_t F16)
    have N16 : rN hp16 1 0 = rN hp 1 0 := p_n G16 (by omega)
    refine xald 20 ⟨u78, _, rfl⟩ rfl rfl ?_
    refine xgetC 23 hH16 ⟨u78, _, rfl⟩ rfl (by decide) (by decide) rfl rfl (by decide) (fun z20 h20 => ?_)
    refine xcst 24 (2) ⟨u78, _, rfl⟩ rfl (by decide) (fun z23 h23 => ?_)
    refine xcmp_eq 27 ⟨u78, _, rfl⟩ rfl (fun c24 => ?_) (fun c24 => ?_)
    · have k2 : ckK y (tN y s) = 2 := by omega
      have v7 : rN hp16 1 7 = tV y (tN y s) := T16.2.2.2 (ckK_2.mp k2).1 (ckK_2.mp k2).2
      refine xald 34 ⟨u78, _, rfl⟩ rfl rfl ?_
      refine xgetC 37 hH16 ⟨u78, _, rfl⟩ rfl (by decide) (by decide) rfl rfl (by decide) (fun z34 h34 => ?_)
      refine xcst 38 (3) ⟨u78, _, rfl⟩ rfl (by decide) (fun z37 h37 => ?_)
      refine xcmp_lt 41 ⟨u78, _, rfl⟩ rfl (fun c38 => ?_) (fun c38 => ?_)
      · refine xald 51 ⟨u78, _, rfl⟩ rfl rfl ?_
        refine xcst 52 (2) ⟨u78, _, rfl⟩ rfl (by decide) (fun z51 h51 => ?_)
        refine xcallC 55 (o := 1) [.int _] [] hH16 ⟨u78, _, rfl⟩ rfl rfl (by decide) rfl (by decide) rfl ⟨rfl, rfl, rfl, rfl⟩ rfl (k_cf hH16 (fun z52 hp52 Z52 hH52 F52 A52 B52 => ⟨_, rfl, ?_⟩))
        have G52 := G16.trans (pFr_f F52)
        exact xretB ⟨u78, _, rfl⟩ rfl (by omega) (hR _ hp52 hH52 G52 (rPt_e (by unfold tPt; rw [if_neg wT, if_pos (by rw [tNum_2 k2 (by omega)]; decide), tNum_2 k2 (by omega)]) (by omega) (by omega) (by rw [B52]; exact T16.1)))
      · refine xald 42 ⟨u78, _, rfl⟩ rfl rfl ?_
        refine xgetC 45 hH16 ⟨u78, _, rfl⟩ rfl (by decide) (by decide) rfl rfl (by decide) (fun z42 h42 => ?_)
        refine xbip 47 (15) ⟨u78, _, rfl⟩ rfl (by decide) (fun z45 h45 => ?_)
        refine xcmp_le 50 ⟨u78, _, rfl⟩ rfl (fun c47 => ?_) (fun c47 => ?_)
        · have n0 : tNum y (tN y s) 3 15 [] = 0 := tNum_0 k2 (by omega) (by omega) (by simp)
          refine xald 57 ⟨u78, _, rfl⟩ rfl rfl ?_
          refine xald 58 ⟨u78, _, rfl⟩ rfl rfl ?_
          refine xgetC 61 hH16 ⟨u78, _, rfl⟩ rfl (by decide) (by decide) rfl rfl (by decide) (fun z58 h58 => ?_)
          have v58 : z58.toInt = tV y (tN y s) := h58.trans v7
          refine xcallC 64 (o := 8) [.int _] [] hH16 ⟨u78, _, rfl⟩ rfl rfl (by decide) rfl (by decide) rfl ⟨rfl, rfl, rfl, rfl⟩ rfl (k_rst (o := 8) (Or.inr rfl) (V := z58.toInt.toNat) hH16 (by omega) (by omega) (by omega) (fun hp61 hH61 F61 B61 S61 => ⟨_, rfl, ?_⟩))
          have G61 := G16.trans (pFr_x F61 (by simp))
          refine xald 65 ⟨u78, _, rfl⟩ rfl rfl ?_
          refine xcallC 68 (o := 1) [] [] hH61 ⟨u78, _, rfl⟩ rfl rfl (by decide) rfl (by decide) rfl ⟨rfl, rfl, rfl, rfl⟩ rfl (k_cadv hH61 (by rw [cB_p (pFr_x F61 (by simp)), Y16]) (p := tE y (tN y s)) (by rw [bFx_n F61 (by simp)]; exact T16.2.1) (by rw [bFx_n F61 (by simp), N16]; omega) (fun hp65 hH65 F65 Y65 T65 => ⟨_, rfl, ?_⟩))
          have T65 : cT hp65 y (tN y (tN y s)) := T65
          have K65 : rN hp65 1 5 = ckK y (tN y (tN y s)) := T65.2.2.1
          have G65 := G61.trans (pFr_t F65)
          have N65 : rN hp65 1 0 = rN hp 1 0 := p_n G65 (by omega)
          have B65 : bdOk hp65 8 z58.toInt.toNat sE := bdOk_fr B61 (r_fr F65 rfl) (fun i => r_fr F65 rfl) (fun i => r_fr F65 rfl)
          refine xald 69 ⟨u78, _, rfl⟩ rfl rfl ?_
          refine xgetC 72 hH65 ⟨u78, _, rfl⟩ rfl (by decide) (by decide) rfl rfl (by decide) (fun z69 h69 => ?_)
          refine xcst 73 (3) ⟨u78, _, rfl⟩ rfl (by decide) (fun z72 h72 => ?_)
          refine xcmp_eq 76 ⟨u78, _, rfl⟩ rfl (fun c73 => ?_) (fun c73 => ?_)
          · refine xald 83 ⟨u78, _, rfl⟩ rfl rfl ?_
            refine xcallC 86 (o := 1) [] [] hH65 ⟨u78, _, rfl⟩ rfl rfl (by decide) rfl (by decide) rfl ⟨rfl, rfl, rfl, rfl⟩ rfl (k_cadv hH65 Y65 (p := tE y (tN y (tN y s))) T65.2.1 (by rw [N65]; omega) (fun hp83 hH83 F83 Y83 T83 => ⟨_, rfl, ?_⟩))
            have G83 := G65.trans (pFr_t F83)
            have B83 : bdOk hp83 8 z58.toInt.toNat sE := bdOk_fr B65 (r_fr F83 rfl) (fun i => r_fr F83 rfl) (fun i => r_fr F83 rfl)
            refine xcst 87 (1) ⟨u78, _, rfl⟩ rfl (by decide) (fun z86 h86 => ?_)
            exact xretB ⟨u78, _, rfl⟩ rfl (by omega) (hR _ hp83 hH83 G83 (by unfold rPt; rw [show tPt y s = .inr z58.toInt.toNat by unfold tPt; rw [if_neg wT, if_neg (by rw [n0]; decide), if_neg (fun z => z (ckK_3.mp (by omega))), ← v58]]; exact ⟨by omega, by omega, by omega, B83, T83, by rw [show rN hp83 1 1 = rN hp65 1 1 from r_fr F83 rfl, show rN hp65 1 1 = rN hp61 1 1 from r_fr F65 rfl, bFx_n F61 (by simp), show rN hp16 1 1 = rN hp 1 1 from r_fr F16 rfl], by rw [show rN hp83 1 2 = rN hp65 1 2 from r_fr F83 rfl, show rN hp65 1 2 = rN hp61 1 2 from r_fr F65 rfl, bFx_n F61 (by simp), show rN hp16 1 2 = rN hp 1 2 from r_fr F16 rfl]⟩))
          · refine xald 77 ⟨u78, _, rfl⟩ rfl rfl ?_
            refine xcst 78 (1) ⟨u78, _, rfl⟩ rfl (by decide) (fun z77 h77 => ?_)
            refine xcallC 81 (o := 1) [.int _] [] hH65 ⟨u78, _, rfl⟩ rfl rfl (by decide) rfl (by decide) rfl ⟨rfl, rfl, rfl, rfl⟩ rfl (k_cf hH65 (fun z78 hp78 Z78 hH78 F78 A78 B78 => ⟨_, rfl, ?_⟩))
            have G78 := G65.trans (pFr_f F78)
            exact xretB ⟨u78, _, rfl⟩ rfl (by omega) (hR _ hp78 hH78 G78 (rPt_e (by unfold tPt; rw [if_neg wT, if_neg (by rw [n0]; decide), if_pos (fun z => c73 (by rw [← ckK_3] at z; omega))]) (by omega) (by omega) (by rw [B78]; exact T65.1)))
        · refine xald 51 ⟨u78, _, rfl⟩ rfl rfl ?_
          refine xcst 52 (2) ⟨u78, _, rfl⟩ rfl (by decide) (fun z51 h51 => ?_)
          refine xcallC 55 (o := 1) [.int _] [] hH16 ⟨u78, _, rfl⟩ rfl rfl (by decide) rfl (by decide) rfl ⟨rfl, rfl, rfl, rfl⟩ rfl (k_cf hH16 (fun z52 hp52 Z52 hH52 F52 A52 B52 => ⟨_, rfl, ?_⟩))
          have G52 := G16.trans (pFr_f F52)
          exact xretB ⟨u78, _, rfl⟩ rfl (by omega) (hR _ hp52 hH52 G52 (rPt_e (by unfold tPt; rw [if_neg wT, if_pos (by rw [tNum_2 k2 (by omega)]; decide), tNum_2 k2 (by omega)]) (by omega) (by omega) (by rw [B52]; exact T16.1)))
    · refine xald 28 ⟨u78, _, rfl⟩ rfl rfl ?_
      refine xcst 29 (1) ⟨u78, _, rfl⟩ rfl (by decide) (fun z28 h28 => ?_)
      refine xcallC 32 (o := 1) [.int _] [] hH16 ⟨u78, _, rfl⟩ rfl rfl (by decide) rfl (by decide) rfl ⟨rfl, rfl, rfl, rfl⟩ rfl (k_cf hH16 (fun z29 hp29 Z29 hH29 F29 A29 B29 => ⟨_, rfl, ?_⟩))
      have G29 := G16.trans (pFr_f F29)
      exact xretB ⟨u78, _, rfl⟩ rfl (by omega) (hR _ hp29 hH29 G29 (rPt_e (by unfold tPt; rw [if_neg wT, if_pos (by rw [tNum_1 (by omega)]; decide), tNum_1 (by omega)]) (by omega) (by omega) (by rw [B29]; exact T16.1)))
  · refine xald 10 ⟨u78, _, rfl⟩ rfl rfl ?_
    refine xcst 11 (1) ⟨u78, _, rfl⟩ rfl (by decide) (fun z10 h10 => ?_)
    refine xcallC 14 (o := 1) [.int _] [] hH ⟨u78, _, rfl⟩ rfl rfl (by decide) rfl (by decide) rfl ⟨rfl, rfl, rfl, rfl⟩ rfl (k_cf hH (fun z11 hp11 Z11 hH11 F11 A11 B11 => ⟨_, rfl, ?_⟩))
    have G11 := G.trans (pFr_f F11)
    exact xretB ⟨u78, _, rfl⟩ rfl (by omega) (hR _ hp11 hH11 G11 (rPt_e (by unfold tPt; rw [if_pos (by rcases h3 with g | g; omega; rw [g.2]; decide)]) (by omega) (by omega) (by rw [B11]; exact T.1)))
end
/-! ##### 19.m.011.26j ##### -/
section
/-! ===== the class reads a statement ===== -/
/-- one point of a statement -/
theorem l79 {d : Nat} {hp : amH} {R : xQ} {y : tY} {s V m kk : Nat} {T : sT} {pre : List Int} {dv w k : Int32} (hH : bHk 84 bTT hp) (Y : cB hp = y) (hT : cT hp y s) (hs : (s : Int) ≤ rN hp 1 0) (hB : bdOk hp 8 V T) (hw : w.toInt = (m : Int)) (hm : m < 32768) (hpre : ∀ i, i < 15 → m.testBit i = decide ((i : Int) ∈ pre)) (hk : k.toInt = (kk : Int)) (hk3 : kk < 3)
    (hE : ∀ (z : Int32) hp1, ¬ tNum y s 0 ((V : Int) - 1) pre = 0 → z.toInt = 0 → bHk 84 bTT hp1 → pFr hp hp1 → rN hp1 1 1 = tNum y s 0 ((V : Int) - 1) pre → rN hp1 1 2 = (s : Int) → R (.inl (some (.int z))) hp1)
    (hN : ∀ (w1 k1 : Int32) hp1, tNum y s 0 ((V : Int) - 1) pre = 0 → 0 ≤ tV y s → tV y s < (V : Int) → ¬ tV y s ∈ pre → bHk 84 bTT hp1 → pFr hp hp1 → cB hp1 = y → cT hp1 y (tN y s) → bdOk hp1 8 V T → w1.toInt = ((m ||| 2 ^ (tV y s).toNat : Nat) : Int) → m ||| 2 ^ (tV y s).toNat < 32768 → k1.toInt = (kk : Int) + 1 → rN hp1 1 1 = rN hp 1 1 → rN hp1 1 2 = rN hp 1 2 → xV (d + 4) am_m79 35 [some (.ref 1), some (.ref 8), some (.int dv), some (.int w1), some (.int k1)] [] hp1 R) :
    xV (d + 4) am_m79 35 [some (.ref 1), some (.ref 8), some (.int dv), some (.int w), some (.int k)] [] hp R := by
  have hok : tOk (rN hp 1 0).toNat y := by rw [← Y]; exact cB_ok hH
  have b0 := b1_0 hH
  have w1 := tE_le hok (s := s) (by omega)
  have bV := hB.2.1.2.1
  have bP := hB.1
  have K0 := hT.2.2.1
  have hTs := hT.1
  refine xild2 37 ⟨u79, _, rfl⟩ rfl rfl ?_
  refine xcst 38 (3) ⟨u79, _, rfl⟩ rfl (by decide) (fun z37 h37 => ?_)
  refine xcmp_ge 41 ⟨u79, _, rfl⟩ rfl (fun c38 => ?_) (fun c38 => ?_)
  · omega
  · refine xald 42 ⟨u79, _, rfl⟩ rfl rfl ?_
    refine xgetC 45 hH ⟨u79, _, rfl⟩ rfl (by decide) (by decide) rfl rfl (by decide) (fun z42 h42 => ?_)
    refine xcst 46 (2) ⟨u79, _, rfl⟩ rfl (by decide) (fun z45 h45 => ?_)
    refine xcmp_eq 49 ⟨u79, _, rfl⟩ rfl (fun c46 => ?_) (fun c46 => ?_)
    · have k2 : ckK y s = 2 := by omega
      have v7 : rN hp 1 7 = tV y s := hT.2.2.2 (ckK_2.mp k2).1 (ckK_2.mp k2).2
      refine xald 56 ⟨u79, _, rfl⟩ rfl rfl ?_
      refine xald 57 ⟨u79, _, rfl⟩ rfl rfl ?_
      refine xgetC 60 hH ⟨u79, _, rfl⟩ rfl (by decide) (by decide) rfl rfl (by decide) (fun z57 h57 => ?_)
      refine xcallC 63 (o := 8) [.int _] [] hH ⟨u79, _, rfl⟩ rfl rfl (by decide) rfl (by decide) rfl ⟨rfl, rfl, rfl, rfl⟩ rfl (k_isp (o := 8) (Or.inr rfl) hH (fun z60 h60 => ⟨_, rfl, ?_⟩))
      refine xif_eq 66 ⟨u79, _, rfl⟩ rfl (fun c63 => ?_) (fun c63 => ?_)
      · refine xald 78 ⟨u79, _, rfl⟩ rfl rfl ?_
        refine xcst 79 (2) ⟨u79, _, rfl⟩ rfl (by decide) (fun z78 h78 => ?_)
        refine xcallC 82 (o := 1) [.int _] [] hH ⟨u79, _, rfl⟩ rfl rfl (by decide) rfl (by decide) rfl ⟨rfl, rfl, rfl, rfl⟩ rfl (k_cf hH (fun z79 hp79 Z79 hH79 F79 A79 B79 => ⟨_, rfl, ?_⟩))
        exact xretB ⟨u79, _, rfl⟩ rfl (by omega) (hE _ hp79 (by rw [tNum_2 k2 (by omega)]; decide) (by omega) hH79 (pFr_f F79) (by rw [tNum_2 k2 (by omega)]; omega) (by omega))
      · refine xild 67 ⟨u79, _, rfl⟩ rfl rfl ?_
        refine xald 68 ⟨u79, _, rfl⟩ rfl rfl ?_
        refine xgetC 71 hH ⟨u79, _, rfl⟩ rfl (by decide) (by decide) rfl rfl (by decide) (fun z68 h68 => ?_)
        refine xcallS 74 [.int _, .int _] [] hH ⟨u79, _, rfl⟩ rfl rfl rfl rfl rfl (k_has hw hm (n := (tV y s).toNat) (by omega) (by omega) (fun z71 h71 => ⟨_, rfl, ?_⟩))
        refine xif_eq 77 ⟨u79, _, rfl⟩ rfl (fun c74 => ?_) (fun c74 => ?_)
        · have nin : ¬ tV y s ∈ pre := fun z => by rw [hpre _ (by omega), show (((tV y s).toNat : Nat) : Int) = tV y s by omega, decide_eq_true z] at h71; simp at h71; omega
          refine xild 84 ⟨u79, _, rfl⟩ rfl rfl ?_
          refine xcst 85 (1) ⟨u79, _, rfl⟩ rfl (by decide) (fun z84 h84 => ?_)
          refine xald 86 ⟨u79, _, rfl⟩ rfl rfl ?_
          refine xgetC 89 hH ⟨u79, _, rfl⟩ rfl (by decide) (by decide) rfl rfl (by decide) (fun z86 h86 => ?_)
          refine xshl 90 ⟨u79, _, rfl⟩ rfl ?_
          refine xor_ 91 ⟨u79, _, rfl⟩ rfl ?_
          refine xist 92 ⟨u79, _, rfl⟩ rfl rfl ?_
          refine xald 93 ⟨u79, _, rfl⟩ rfl rfl ?_
          refine xcallC 96 (o := 1) [] [] hH ⟨u79, _, rfl⟩ rfl rfl (by decide) rfl (by decide) rfl ⟨rfl, rfl, rfl, rfl⟩ rfl (k_cadv hH Y (p := tE y s) hT.2.1 (by omega) (fun hp93 hH93 F93 Y93 T93 => ⟨_, rfl, ?_⟩))
          refine xinc 99 (1) ⟨u79, _, rfl⟩ rfl rfl rfl (by decide) (by omega) (by omega) (fun z96 h96 => ?_)
          refine xgoto ⟨u79, _, rfl⟩ ?_
          have w91 := i_or hw (i_shl h84 (show z86.toInt = (((tV y s).toNat : Nat) : Int) by omega) (by omega)).1 hm (i_shl h84 (show z86.toInt = (((tV y s).toNat : Nat) : Int) by omega) (by omega)).2
          exact hN _ _ hp93 (tNum_0 k2 (by omega) (by omega) nin) (by omega) (by omega) nin hH93 (pFr_t F93) Y93 T93 (bdOk_fr hB (r_fr F93 rfl) (fun i => r_fr F93 rfl) (fun i => r_fr F93 rfl)) w91.1 w91.2 (by omega) (r_fr F93 rfl) (r_fr F93 rfl)
        · refine xald 78 ⟨u79, _, rfl⟩ rfl rfl ?_
          refine xcst 79 (2) ⟨u79, _, rfl⟩ rfl (by decide) (fun z78 h78 => ?_)
          refine xcallC 82 (o := 1) [.int _] [] hH ⟨u79, _, rfl⟩ rfl rfl (by decide) rfl (by decide) rfl ⟨rfl, rfl, rfl, rfl⟩ rfl (k_cf hH (fun z79 hp79 Z79 hH79 F79 A79 B79 => ⟨_, rfl, ?_⟩))
          exact xretB ⟨u79, _, rfl⟩ rfl (by omega) (hE _ hp79 (by rw [tNum_2 k2 (Or.inr (Or.inr (by rw [hpre _ (by omega), show (((tV y s).toNat : Nat) : Int) = tV y s by omega] at h71; by_cases g : tV y s ∈ pre; exact g; rw [decide_eq_false g] at h71; simp at h71; omega)))]; decide) (by omega) hH79 (pFr_f F79) (by rw [tNum_2 k2 (Or.inr (Or.inr (by rw [hpre _ (by omega), show (((tV y s).toNat : Nat) : Int) = tV y s by omega] at h71; by_cases g : tV y s ∈ pre; exact g; rw [decide_eq_false g] at h71; simp at h71; omega)))]; omega) (by omega))
    · refine xald 50 ⟨u79, _, rfl⟩ rfl rfl ?_
      refine xcst 51 (1) ⟨u79, _, rfl⟩ rfl (by decide) (fun z50 h50 => ?_)
      refine xcallC 54 (o := 1) [.int _] [] hH ⟨u79, _, rfl⟩ rfl rfl (by decide) rfl (by decide) rfl ⟨rfl, rfl, rfl, rfl⟩ rfl (k_cf hH (fun z51 hp51 Z51 hH51 F51 A51 B51 => ⟨_, rfl, ?_⟩))
      exact xretB ⟨u79, _, rfl⟩ rfl (by omega) (hE _ hp51 (by rw [tNum_1 (by omega)]; decide) (by omega) hH51 (pFr_f F51) (by rw [tNum_1 (by omega)]; omega) (by omega))
def rSt (y : tY) (V : Nat) (T : sT) (s : Nat) (z : Int) (hp hp1 : amH) : Prop := match tSt y V T s with
  | .inl e => z = 0 ∧ rN hp1 1 1 = e.1 ∧ rN hp1 1 2 = (e.2 : Int)
  | .inr q => z = 1 ∧ bdOk hp1 8 V q.1 ∧ cT hp1 y q.2 ∧ rN hp1 1 1 = rN hp 1 1 ∧ rN hp1 1 2 = rN hp 1 2
theorem rSt_e {y : tY} {V : Nat} {T : sT} {s : Nat} {z : Int} {hp hp1 : amH} {c : Int} {q : Nat} (e : tSt y V T s = .inl (c, q)) (hz : z = 0) (h1 : rN hp1 1 1 = c) (h2 : rN hp1 1 2 = (q : Int)) : rSt y V T s z hp hp1 := by
  unfold rSt
  rw [e]
  exact ⟨hz, h1, h2⟩
theorem rSt_s {y : tY} {V : Nat} {T : sT} {s : Nat} {z : Int} {hp hp1 : amH} {T1 : sT} {q : Nat} (e : tSt y V T s = .inr (T1, q)) (hz : z = 1) (h1 : bdOk hp1 8 V T1) (h2 : cT hp1 y q) (h3 : rN hp1 1 1 = rN hp 1 1) (h4 : rN hp1 1 2 = rN hp 1 2) : rSt y V T s z hp hp1 := by
  unfold rSt
  rw [e]
  exact ⟨hz, h1, h2, h3, h4⟩
/-- the three points of a statement, read -/
def tGo (y : tY) (V s : Nat) : Prop := (tWd y s wDev = true ∨ tWd y s wTri = true) ∧ tNum y (tN y s) 0 ((V : Int) - 1) [] = 0 ∧ tNum y (tN y (tN y s)) 0 ((V : Int) - 1) [tV y (tN y s)] = 0 ∧ tNum y (tN y (tN y (tN y s))) 0 ((V : Int) - 1) [tV y (tN y s), tV y (tN y (tN y s))] = 0
theorem tSt_go {y : tY} {V s : Nat} {T : sT} (h : tGo y V s) : tSt y V T s = if ¬ tK y (tN y (tN y (tN y (tN y s)))) = 3 then .inl (1, tN y (tN y (tN y (tN y s)))) else
  if ¬ sFree T (tV y (tN y s)).toNat (tV y (tN y (tN y s))).toNat (tV y (tN y (tN y (tN y s)))).toNat then .inl (3, tN y (tN y (tN y (tN y s)))) else
  if tWd y s wTri then .inr (sPut T (tV y (tN y s)).toNat (tV y (tN y (tN y s))).toNat (tV y (tN y (tN y (tN y s)))).toNat, tN y (tN y (tN y (tN y (tN y s))))) else
  match sDv V (tV y (tN y s)).toNat (tV y (tN y (tN y s))).toNat (tV y (tN y (tN y (tN y s)))).toNat V 0 T 0 with
  | none => .inl (3, tN y (tN y (tN y (tN y s))))
  | some q => .inr (q.1, tN y (tN y (tN y (tN y (tN y s))))) := by
  obtain ⟨h1, h2, h3, h4⟩ := h
  unfold tSt
  rw [if_neg (fun z => z h1), if_neg (fun z => z h2), if_neg (fun z => z h3), if_neg (fun z => z h4)]
  rfl
/-- two words at one place -/
theorem tWd_ne {y : tY} {s : Nat} (h : tWd y s wDev = true) (h2 : tWd y s wTri = true) : False := by
  have a := (of_decide_eq_true h).2.2 0 (by decide)
  have b := (of_decide_eq_true h2).2.2 0 (by decide)
  rw [a] at b
  exact absurd b (by decide)
/-- behind the three points -/
theorem e79 {d : Nat} {hp0 hp : amH} {R : xQ} {y : tY} {s V : Nat} {T : sT} {dv w k : Int32} {v1 v2 v3 : Nat} (hH : bHk 84 bTT hp) (hF : pFr hp0 hp) (hk1 : rN hp 1 1 = rN hp0 1 1) (hk2 : rN hp 1 2 = rN hp0 1 2) (Y : cB hp = y) (hT : cT hp y (tN y (tN y (tN y (tN y s))))) (hs : ((tN y (tN y (tN y (tN y s))) : Nat) : Int) ≤ rN hp 1 0) (hB : bdOk hp 8 V T) (hg : tGo y V s) (e1 : tV y (tN y s) = (v1 : Int)) (e2 : tV y (tN y (tN y s)) = (v2 : Int)) (e3 : tV y (tN y (tN y (tN y s))) = (v3 : Int)) (l1 : v1 < V) (l2 : v2 < V) (l3 : v3 < V) (n12 : ¬ v1 = v2) (n23 : ¬ v2 = v3) (n13 : ¬ v1 = v3)
    (hw : w.toInt = ((m3 v1 v2 v3 : Nat) : Int)) (hk : k.toInt = 3) (hdv : (dv.toInt = 1 ∧ tWd y s wDev = true) ∨ (dv.toInt = 0 ∧ tWd y s wTri = true))
    (hR : ∀ (z : Int32) hp1, bHk 84 bTT hp1 → pFr hp0 hp1 → rSt y V T s z.toInt hp0 hp1 → R (.inl (some (.int z))) hp1) :
    xV (d + 4) am_m79 35 [some (.ref 1), some (.ref 8), some (.int dv), some (.int w), some (.int k)] [] hp R := by
  have hok : tOk (rN hp 1 0).toNat y := by rw [← Y]; exact cB_ok hH
  have b0 := b1_0 hH
  have w1 := tE_le hok (s := tN y (tN y (tN y (tN y s)))) (by omega)
  have bV := hB.2.1.2.1
  have K0 := hT.2.2.1
  have hTs := hT.1
  have go := tSt_go (T := T) hg
  rw [e1, e2, e3, Int.toNat_natCast, Int.toNat_natCast, Int.toNat_natCast] at go
  refine xild2 37 ⟨u79, _, rfl⟩ rfl rfl ?_
  refine xcst 38 (3) ⟨u79, _, rfl⟩ rfl (by decide) (fun z37 h37 => ?_)
  refine xcmp_ge 41 ⟨u79, _, rfl⟩ rfl (fun c38 => ?_) (fun c38 => ?_)
  · refine xald 103 ⟨u79, _, rfl⟩ rfl rfl ?_
    refine xgetC 106 hH ⟨u79, _, rfl⟩ rfl (by decide) (by decide) rfl rfl (by decide) (fun z103 h103 => ?_)
    refine xcst 107 (3) ⟨u79, _, rfl⟩ rfl (by decide) (fun z106 h106 => ?_)
    refine xcmp_eq 110 ⟨u79, _, rfl⟩ rfl (fun c107 => ?_) (fun c107 => ?_)
    · have k3 : tK y (tN y (tN y (tN y (tN y s)))) = 3 := ckK_3.mp (by omega)
      rw [if_neg (fun z => z k3)] at go
      refine xald 117 ⟨u79, _, rfl⟩ rfl rfl ?_
      refine xild 118 ⟨u79, _, rfl⟩ rfl rfl ?_
      refine xcallC 121 (o := 8) [.int _] [] hH ⟨u79, _, rfl⟩ rfl rfl (by decide) rfl (by decide) rfl ⟨rfl, rfl, rfl, rfl⟩ rfl (k_takU (o := 8) (Or.inr rfl) hH hB hw l1 l2 l3 n12 n23 n13 (fun z118 h118 => ⟨_, rfl, ?_⟩))
      refine xif_eq 124 ⟨u79, _, rfl⟩ rfl (fun c121 => ?_) (fun c121 => ?_)
      · have fr : ¬ sFree T v1 v2 v3 := by rcases h118 with g | g; omega; exact g.2
        rw [if_pos fr] at go
        refine xald 138 ⟨u79, _, rfl⟩ rfl rfl ?_
        refine xcst 139 (3) ⟨u79, _, rfl⟩ rfl (by decide) (fun z138 h138 => ?_)
        refine xcallC 142 (o := 1) [.int _] [] hH ⟨u79, _, rfl⟩ rfl rfl (by decide) rfl (by decide) rfl ⟨rfl, rfl, rfl, rfl⟩ rfl (k_cf hH (fun z139 hp139 Z139 hH139 F139 A139 B139 => ⟨_, rfl, ?_⟩))
        exact xretB ⟨u79, _, rfl⟩ rfl (by omega) (hR _ hp139 hH139 (hF.trans (pFr_f F139)) (rSt_e go (by omega) (by omega) (by omega)))
      · have fr : sFree T v1 v2 v3 := by rcases h118 with g | g; exact g.2; omega
        rw [if_neg (fun z => z fr)] at go
        refine xild 125 ⟨u79, _, rfl⟩ rfl rfl ?_
        refine xif_eq 128 ⟨u79, _, rfl⟩ rfl (fun c125 => ?_) (fun c125 => ?_)
        · have wd : tWd y s wTri = true := by rcases hdv with g | g; omega; exact g.2
          rw [if_pos wd] at go
          refine xild 144 ⟨u79, _, rfl⟩ rfl rfl ?_
          refine xif_ne 147 ⟨u79, _, rfl⟩ rfl (fun c144 => ?_) (fun c144 => ?_)
          · omega
          · refine xald 148 ⟨u79, _, rfl⟩ rfl rfl ?_
            refine xild 149 ⟨u79, _, rfl⟩ rfl rfl ?_
            refine xcallC 152 (o := 8) [.int _] [] hH ⟨u79, _, rfl⟩ rfl rfl (by decide) rfl (by decide) rfl ⟨rfl, rfl, rfl, rfl⟩ rfl (k_bputU (o := 8) (Or.inr rfl) hH hB hw l1 l2 l3 n12 n23 n13 fr (fun hp149 hH149 F149 B149 => ⟨_, rfl, ?_⟩))
            refine xald 153 ⟨u79, _, rfl⟩ rfl rfl ?_
            refine xcallC 156 (o := 1) [] [] hH149 ⟨u79, _, rfl⟩ rfl rfl (by decide) rfl (by decide) rfl ⟨rfl, rfl, rfl, rfl⟩ rfl (k_cadv hH149 (by rw [cB_p (pFr_x F149 (by simp)), Y]) (p := tE y (tN y (tN y (tN y (tN y s))))) (by rw [bFx_n F149 (by simp)]; exact hT.2.1) (by rw [bFx_n F149 (by simp)]; omega) (fun hp153 hH153 F153 Y153 T153 => ⟨_, rfl, ?_⟩))
            refine xcst 157 (1) ⟨u79, _, rfl⟩ rfl (by decide) (fun z156 h156 => ?_)
            exact xretB ⟨u79, _, rfl⟩ rfl (by omega) (hR _ hp153 hH153 ((hF.trans (pFr_x F149 (by simp))).trans (pFr_t F153)) (rSt_s go (by omega) (bdOk_fr B149 (r_fr F153 rfl) (fun i => r_fr F153 rfl) (fun i => r_fr F153 rfl)) T153 (by rw [show rN hp153 1 1 = rN hp149 1 1 from r_fr F153 rfl, bFx_n F149 (by simp)]; exact hk1) (by rw [show rN hp153 1 2 = rN hp149 1 2 from r_fr F153 rfl, bFx_n F149 (by simp)]; exact hk2)))
        · have wd : tWd y s wDev = true := by rcases hdv with g | g; exact g.2; omega
          rw [if_neg (fun z => tWd_ne wd z)] at go
          refine xald 129 ⟨u79, _, rfl⟩ rfl rfl ?_
          refine xild 130 ⟨u79, _, rfl⟩ rfl rfl ?_
          refine xcallC 133 (o := 8) [.int _] [] hH ⟨u79, _, rfl⟩ rfl rfl (by decide) rfl (by decide) rfl ⟨rfl, rfl, rfl, rfl⟩ rfl (k_pat (o := 8) (Or.inr rfl) hH hB hw l1 l2 l3 n12 n23 n13 (fun z130 hp130 hH130 F130 h130 => ⟨_, rfl, ?_⟩))
          refine xcst 134 (-1) ⟨u79, _, rfl⟩ rfl (by decide) (fun z133 h133 => ?_)
          refine xcmp_ne 137 ⟨u79, _, rfl⟩ rfl (fun c134 => ?_) (fun c134 => ?_)
          · have hh : ∃ q, sDv V v1 v2 v3 V 0 T 0 = some q ∧ bdOk hp130 8 V q.1 := by cases e : sDv V v1 v2 v3 V 0 T 0 with
              | none => rw [e] at h130; omega
              | some q => rw [e] at h130; exact ⟨q, rfl, h130.2⟩
            obtain ⟨q, hq, B130⟩ := hh
            rw [hq] at go
            refine xild 144 ⟨u79, _, rfl⟩ rfl rfl ?_
            refine xif_ne 147 ⟨u79, _, rfl⟩ rfl (fun c144 => ?_) (fun c144 => ?_)
            · refine xald 153 ⟨u79, _, rfl⟩ rfl rfl ?_
              refine xcallC 156 (o := 1) [] [] hH130 ⟨u79, _, rfl⟩ rfl rfl (by decide) rfl (by decide) rfl ⟨rfl, rfl, rfl, rfl⟩ rfl (k_cadv hH130 (by rw [cB_p (pFr_x F130 (by simp)), Y]) (p := tE y (tN y (tN y (tN y (tN y s))))) (by rw [bFx_n F130 (by simp)]; exact hT.2.1) (by rw [bFx_n F130 (by simp)]; omega) (fun hp153 hH153 F153 Y153 T153 => ⟨_, rfl, ?_⟩))
              refine xcst 157 (1) ⟨u79, _, rfl⟩ rfl (by decide) (fun z156 h156 => ?_)
              exact xretB ⟨u79, _, rfl⟩ rfl (by omega) (hR _ hp153 hH153 ((hF.trans (pFr_x F130 (by simp))).trans (pFr_t F153)) (rSt_s go (by omega) (bdOk_fr B130 (r_fr F153 rfl) (fun i => r_fr F153 rfl) (fun i => r_fr F153 rfl)) T153 (by rw [show rN hp153 1 1 = rN hp130 1 1 from r_fr F153 rfl, bFx_n F130 (by simp)]; exact hk1) (by rw [show rN hp153 1 2 = rN hp130 1 2 from r_fr F153 rfl, bFx_n F130 (by simp)]; exact hk2)))
            · omega
          · have hh : sDv V v1 v2 v3 V 0 T 0 = none := by cases e : sDv V v1 v2 v3 V 0 T 0 with
              | none => rfl
              | some q => rw [e] at h130; omega
            rw [hh] at go
            refine xald 138 ⟨u79, _, rfl⟩ rfl rfl ?_
            refine xcst 139 (3) ⟨u79, _, rfl⟩ rfl (by decide) (fun z138 h138 => ?_)
            refine xcallC 142 (o := 1) [.int _] [] hH130 ⟨u79, _, rfl⟩ rfl rfl (by decide) rfl (by decide) rfl ⟨rfl, rfl, rfl, rfl⟩ rfl (k_cf hH130 (fun z139 hp139 Z139 hH139 F139 A139 B139 => ⟨_, rfl, ?_⟩))
            exact xretB ⟨u79, _, rfl⟩ rfl (by omega) (hR _ hp139 hH139 ((hF.trans (pFr_x F130 (by simp))).trans (pFr_f F139)) (rSt_e go (by omega) (by omega) (by rw [B139, bFx_n F130 (by simp)]; exact hTs)))
    · refine xald 111 ⟨u79, _, rfl⟩ rfl rfl ?_
      refine xcst 112 (1) ⟨u79, _, rfl⟩ rfl (by decide) (fun z111 h111 => ?_)
      refine xcallC 115 (o := 1) [.int _] [] hH ⟨u79, _, rfl⟩ rfl rfl (by decide) rfl (by decide) rfl ⟨rfl, rfl, rfl, rfl⟩ rfl (k_cf hH (fun z112 hp112 Z112 hH112 F112 A112 B112 => ⟨_, rfl, ?_⟩))
      exact xretB ⟨u79, _, rfl⟩ rfl (by omega) (hR _ hp112 hH112 (hF.trans (pFr_f F112)) (rSt_e (by rw [go, if_pos (fun z => c107 (by have := ckK_3.mpr z; omega))]) (by omega) (by omega) (by omega)))
  · omega
end
