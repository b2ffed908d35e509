/-! ===== the class's boards: triples in any order; all turns ===== -/
/-- three points in their order -/
theorem srt {a b c : Nat} (hab : ¬ a = b) (hbc : ¬ b = c) (hac : ¬ a = c) : ∃ x y z : Nat, x < y ∧ y < z ∧ m3 a b c = m3 x y z ∧ (∀ T : sT, sPut T a b c = sPut T x y z) ∧ (∀ T : sT, (∀ u v, T u v = -1 → T v u = -1) → (sFree T a b c ↔ sFree T x y z)) ∧ (∀ P : Nat → Prop, P a → P b → P c → P x ∧ P y ∧ P z) ∧ (∀ i, (i = a ∨ i = b ∨ i = c) ↔ (i = x ∨ i = y ∨ i = z)) := by
  have go : ∀ x y z : Nat, x < y → y < z → (∀ i, (i = a ∨ i = b ∨ i = c) ↔ (i = x ∨ i = y ∨ i = z)) → ((a : Int) + b + c = x + y + z) → (∀ T : sT, (∀ u v, T u v = -1 → T v u = -1) → (sFree T a b c ↔ sFree T x y z)) → (∀ P : Nat → Prop, P a → P b → P c → P x ∧ P y ∧ P z) → ∃ x y z : Nat, x < y ∧ y < z ∧ m3 a b c = m3 x y z ∧ (∀ T : sT, sPut T a b c = sPut T x y z) ∧ (∀ T : sT, (∀ u v, T u v = -1 → T v u = -1) → (sFree T a b c ↔ sFree T x y z)) ∧ (∀ P : Nat → Prop, P a → P b → P c → P x ∧ P y ∧ P z) ∧ (∀ i, (i = a ∨ i = b ∨ i = c) ↔ (i = x ∨ i = y ∨ i = z)) := by
    intro x y z h1 h2 h3 h4 h5 h6
    refine ⟨x, y, z, h1, h2, ?_, fun T => ?_, h5, h6, h3⟩
    · apply Nat.eq_of_testBit_eq
      intro i
      rw [m3_test, m3_test, decide_eq_decide]
      exact h3 i
    · funext u v
      unfold sPut
      have e : sPr a b c u v ↔ sPr x y z u v := by unfold sPr; rw [h3 u, h3 v]
      by_cases g : sPr a b c u v
      · rw [if_pos g, if_pos (e.mp g)]; omega
      · rw [if_neg g, if_neg (fun z => g (e.mpr z))]
  have sf : ∀ (T : sT), (∀ u v, T u v = -1 → T v u = -1) → ∀ u v, (T u v = -1) = (T v u = -1) := fun T hT u v => propext ⟨hT u v, hT v u⟩
  rcases Nat.lt_or_gt_of_ne hab with h1 | h1
  · rcases Nat.lt_or_gt_of_ne hbc with h2 | h2
    · exact go a b c h1 h2 (fun i => Iff.rfl) (by omega) (fun T hT => Iff.rfl) (fun P p1 p2 p3 => ⟨p1, p2, p3⟩)
    · rcases Nat.lt_or_gt_of_ne hac with h3 | h3
      · exact go a c b h3 h2 (fun i => by omega) (by omega) (fun T hT => ⟨fun g => ⟨g.2.2, hT _ _ g.2.1, g.1⟩, fun g => ⟨g.2.2, hT _ _ g.2.1, g.1⟩⟩) (fun P p1 p2 p3 => ⟨p1, p3, p2⟩)
      · exact go c a b h3 h1 (fun i => by omega) (by omega) (fun T hT => ⟨fun g => ⟨hT _ _ g.2.2, g.1, hT _ _ g.2.1⟩, fun g => ⟨g.2.1, hT _ _ g.2.2, hT _ _ g.1⟩⟩) (fun P p1 p2 p3 => ⟨p3, p1, p2⟩)
  · rcases Nat.lt_or_gt_of_ne hac with h2 | h2
    · exact go b a c h1 h2 (fun i => by omega) (by omega) (fun T hT => ⟨fun g => ⟨hT _ _ g.1, g.2.2, g.2.1⟩, fun g => ⟨hT _ _ g.1, g.2.2, g.2.1⟩⟩) (fun P p1 p2 p3 => ⟨p2, p1, p3⟩)
    · rcases Nat.lt_or_gt_of_ne hbc with h3 | h3
      · exact go b c a h3 h2 (fun i => by omega) (by omega) (fun T hT => ⟨fun g => ⟨g.2.1, hT _ _ g.2.2, hT _ _ g.1⟩, fun g => ⟨hT _ _ g.2.2, g.1, hT _ _ g.2.1⟩⟩) (fun P p1 p2 p3 => ⟨p2, p3, p1⟩)
      · exact go c b a h3 h1 (fun i => by omega) (by omega) (fun T hT => ⟨fun g => ⟨hT _ _ g.2.1, hT _ _ g.1, hT _ _ g.2.2⟩, fun g => ⟨hT _ _ g.2.1, hT _ _ g.1, hT _ _ g.2.2⟩⟩) (fun P p1 p2 p3 => ⟨p3, p2, p1⟩)
theorem k_takU {d : Nat} {hp : amH} {R : xQ} {o V a b c : Nat} {T : sT} {s : Int32} (ho : bo o) (hH : bHk 84 bTT hp) (hB : bdOk hp o V T) (hs : s.toInt = ((m3 a b c : Nat) : Int)) (ha : a < V) (hb : b < V) (hc : c < V) (hab : ¬ a = b) (hbc : ¬ b = c) (hac : ¬ a = c) (hR : ∀ r : Int32, ((r.toInt = 1 ∧ sFree T a b c) ∨ (r.toInt = 0 ∧ ¬ sFree T a b c)) → R (.inl (some (.int r))) hp) : xK (d + 2) 13 [.ref o, .int s] hp R := by
  obtain ⟨x, y, z, g1, g2, g3, g4, g5, g6, -⟩ := srt hab hbc hac
  have f := g5 T (fun u v e => sy_free hB.2.1 e)
  obtain ⟨-, -, l3⟩ := g6 (fun i => i < V) ha hb hc
  exact k_tak ho hH hB (by rw [hs, g3]) g1 g2 l3 (fun r h => hR r (by rw [f]; exact h))
theorem k_bputU {d : Nat} {hp : amH} {R : xQ} {o V a b c : Nat} {T : sT} {s : Int32} (ho : bo o) (hH : bHk 84 bTT hp) (hB : bdOk hp o V T) (hs : s.toInt = ((m3 a b c : Nat) : Int)) (ha : a < V) (hb : b < V) (hc : c < V) (hab : ¬ a = b) (hbc : ¬ b = c) (hac : ¬ a = c) (hf : sFree T a b c)
    (hR : ∀ hp1, bHk 84 bTT hp1 → bFx [o + 1, o + 3] hp hp1 → bdOk hp1 o V (sPut T a b c) → R (.inl none) hp1) : xK (d + 2) 14 [.ref o, .int s] hp R := by
  obtain ⟨x, y, z, g1, g2, g3, g4, g5, g6, -⟩ := srt hab hbc hac
  have f := g5 T (fun u v e => sy_free hB.2.1 e)
  obtain ⟨-, -, l3⟩ := g6 (fun i => i < V) ha hb hc
  rw [g4 T] at hR
  exact k_bput ho hH hB (by rw [hs, g3]) g1 g2 l3 (f.mp hf) hR
theorem md_ne {V k p q : Nat} (hp : p < V) (hq : q < V) (h : ¬ p = q) : ¬ (p + k) % V = (q + k) % V := by
  intro e
  have e1 := Nat.div_add_mod (p + k) V
  have e2 := Nat.div_add_mod (q + k) V
  rw [e] at e1
  have : V * ((p + k) / V) + q = V * ((q + k) / V) + p := by omega
  rcases Nat.lt_trichotomy ((p + k) / V) ((q + k) / V) with g | g | g
  · have : V * ((p + k) / V + 1) ≤ V * ((q + k) / V) := Nat.mul_le_mul_left V g
    rw [Nat.mul_add] at this
    omega
  · rw [g] at this; omega
  · have : V * ((q + k) / V + 1) ≤ V * ((p + k) / V) := Nat.mul_le_mul_left V g
    rw [Nat.mul_add] at this
    omega
/-- all turns of a triple -/
theorem l21 {d : Nat} {hp0 : amH} {R : xQ} {o V a b c : Nat} {s : Int32} (ho : bo o) (hs : s.toInt = ((m3 a b c : Nat) : Int)) (ha : a < V) (hb : b < V) (hc : c < V) (hab : ¬ a = b) (hbc : ¬ b = c) (hac : ¬ a = c)
    {X : Option (sT × Nat)} (hR : ∀ (r : Int32) hp1, bHk 84 bTT hp1 → bFx [o + 1, o + 3] hp0 hp1 → (match X with
      | none => r.toInt = -1
      | some q => r.toInt = (q.2 : Int) ∧ bdOk hp1 o V q.1) → R (.inl (some (.int r))) hp1) :
    ∀ (f k n : Nat) (T : sT) (hp : amH) (m i : Int32) (v : Option Value), bHk 84 bTT hp → bFx [o + 1, o + 3] hp0 hp → bdOk hp o V T → f + k = V → n ≤ k → m.toInt = (n : Int) → i.toInt = (k : Int) → sDv V a b c f k T n = X → xV (d + 3) am_m21 4 [some (.ref o), some (.int s), some (.int m), some (.int i), v] [] hp R := by
  intro f
  induction f with
  | zero =>
    intro k n T hp m i v hH hF hB hk hn hm hi hX
    have hV := hB.2.1.2.1
    have b1 := hB.1
    have hX : some (T, n) = X := hX
    subst hX
    refine xild 5 ⟨u21, _, rfl⟩ rfl rfl ?_
    refine xald 6 ⟨u21, _, rfl⟩ rfl rfl ?_
    refine xgetC 9 hH ⟨u21, _, rfl⟩ rfl (bo_lt ho) (by decide) (bo_T ho) rfl (by decide) (fun z6 h6 => ?_)
    refine xcmp_ge 12 ⟨u21, _, rfl⟩ rfl (fun c9 => ?_) (fun c9 => ?_)
    · refine xild 63 ⟨u21, _, rfl⟩ rfl rfl ?_
      exact xret ⟨u21, _, rfl⟩ rfl (hR _ hp hH hF ⟨hm, hB⟩)
    · omega
  | succ f ih =>
    intro k n T hp m i v hH hF hB hk hn hm hi hX
    have hV := hB.2.1.2.1
    have b1 := hB.1
    have hlt := m3_lt (x := a) (y := b) (z := c) (by omega) (by omega) (by omega)
    have hrot := rot_m3 (V := V) (k := k) hV (by omega) ha hb hc
    unfold sDv at hX
    refine xild 5 ⟨u21, _, rfl⟩ rfl rfl ?_
    refine xald 6 ⟨u21, _, rfl⟩ rfl rfl ?_
    refine xgetC 9 hH ⟨u21, _, rfl⟩ rfl (bo_lt ho) (by decide) (bo_T ho) rfl (by decide) (fun z6 h6 => ?_)
    refine xcmp_ge 12 ⟨u21, _, rfl⟩ rfl (fun c9 => ?_) (fun c9 => ?_)
    · omega
    · refine xild 13 ⟨u21, _, rfl⟩ rfl rfl ?_
      refine xild 14 ⟨u21, _, rfl⟩ rfl rfl ?_
      refine xald 15 ⟨u21, _, rfl⟩ rfl rfl ?_
      refine xgetC 18 hH ⟨u21, _, rfl⟩ rfl (bo_lt ho) (by decide) (bo_T ho) rfl (by decide) (fun z15 h15 => ?_)
      refine xcallS 21 [.int _, .int _, .int _] [] hH ⟨u21, _, rfl⟩ rfl rfl rfl rfl rfl (k_rot hs hlt hi (h15.trans b1) (by omega) hV (fun z18 h18 => ⟨_, rfl, ?_⟩))
      refine xist2 23 ⟨u21, _, rfl⟩ rfl rfl ?_
      refine xild 24 ⟨u21, _, rfl⟩ rfl rfl ?_
      refine xif_le 27 ⟨u21, _, rfl⟩ rfl (fun c24 => ?_) (fun c24 => ?_)
      · rw [if_neg (by omega)] at hX
        refine xald 37 ⟨u21, _, rfl⟩ rfl rfl ?_
        refine xild2 39 ⟨u21, _, rfl⟩ rfl rfl ?_
        refine xcallC 42 (o := o) [.int _] [] hH ⟨u21, _, rfl⟩ rfl rfl (bo_lt ho) (bo_T ho) (by decide) rfl ⟨rfl, rfl, rfl, rfl⟩ rfl (k_takU ho hH hB (by rw [h18, hrot]) (Nat.mod_lt _ (by omega)) (Nat.mod_lt _ (by omega)) (Nat.mod_lt _ (by omega)) (md_ne ha hb hab) (md_ne hb hc hbc) (md_ne ha hc hac) (fun z39 h39 => ⟨_, rfl, ?_⟩))
        refine xif_ne 45 ⟨u21, _, rfl⟩ rfl (fun c42 => ?_) (fun c42 => ?_)
        · have fr : sFree T ((a + k) % V) ((b + k) % V) ((c + k) % V) := by rcases h39 with g | g; exact g.2; omega
          rw [if_pos fr] at hX
          refine xald 48 ⟨u21, _, rfl⟩ rfl rfl ?_
          refine xild2 50 ⟨u21, _, rfl⟩ rfl rfl ?_
          refine xcallC 53 (o := o) [.int _] [] hH ⟨u21, _, rfl⟩ rfl rfl (bo_lt ho) (bo_T ho) (by decide) rfl ⟨rfl, rfl, rfl, rfl⟩ rfl (k_bputU ho hH hB (by rw [h18, hrot]) (Nat.mod_lt _ (by omega)) (Nat.mod_lt _ (by omega)) (Nat.mod_lt _ (by omega)) (md_ne ha hb hab) (md_ne hb hc hbc) (md_ne ha hc hac) fr (fun hp50 hH50 F50 B50 => ⟨_, rfl, ?_⟩))
          refine xinc 56 (1) ⟨u21, _, rfl⟩ rfl rfl rfl (by decide) (by omega) (by omega) (fun z53 h53 => ?_)
          refine xinc 59 (1) ⟨u21, _, rfl⟩ rfl rfl rfl (by decide) (by omega) (by omega) (fun z56 h56 => ?_)
          refine xgoto ⟨u21, _, rfl⟩ ?_
          exact ih (k + 1) (n + 1) _ hp50 _ _ _ hH50 (hF.trans F50) B50 (by omega) (by omega) (by omega) (by omega) hX
        · refine xcst 46 (-1) ⟨u21, _, rfl⟩ rfl (by decide) (fun z45 h45 => ?_)
          have nf : ¬ sFree T ((a + k) % V) ((b + k) % V) ((c + k) % V) := by rcases h39 with g | g; omega; exact g.2
          rw [if_neg nf] at hX
          subst hX
          exact xret ⟨u21, _, rfl⟩ rfl (hR _ hp hH hF h45)
      · refine xild2 29 ⟨u21, _, rfl⟩ rfl rfl ?_
        refine xild 30 ⟨u21, _, rfl⟩ rfl rfl ?_
        refine xcmp_ne 33 ⟨u21, _, rfl⟩ rfl (fun c30 => ?_) (fun c30 => ?_)
        · rw [if_neg (fun z => c30 (by rw [h18, hrot, hs, z.2]))] at hX
          refine xald 37 ⟨u21, _, rfl⟩ rfl rfl ?_
          refine xild2 39 ⟨u21, _, rfl⟩ rfl rfl ?_
          refine xcallC 42 (o := o) [.int _] [] hH ⟨u21, _, rfl⟩ rfl rfl (bo_lt ho) (bo_T ho) (by decide) rfl ⟨rfl, rfl, rfl, rfl⟩ rfl (k_takU ho hH hB (by rw [h18, hrot]) (Nat.mod_lt _ (by omega)) (Nat.mod_lt _ (by omega)) (Nat.mod_lt _ (by omega)) (md_ne ha hb hab) (md_ne hb hc hbc) (md_ne ha hc hac) (fun z39 h39 => ⟨_, rfl, ?_⟩))
          refine xif_ne 45 ⟨u21, _, rfl⟩ rfl (fun c42 => ?_) (fun c42 => ?_)
          · have fr : sFree T ((a + k) % V) ((b + k) % V) ((c + k) % V) := by rcases h39 with g | g; exact g.2; omega
            rw [if_pos fr] at hX
            refine xald 48 ⟨u21, _, rfl⟩ rfl rfl ?_
            refine xild2 50 ⟨u21, _, rfl⟩ rfl rfl ?_
            refine xcallC 53 (o := o) [.int _] [] hH ⟨u21, _, rfl⟩ rfl rfl (bo_lt ho) (bo_T ho) (by decide) rfl ⟨rfl, rfl, rfl, rfl⟩ rfl (k_bputU ho hH hB (by rw [h18, hrot]) (Nat.mod_lt _ (by omega)) (Nat.mod_lt _ (by omega)) (Nat.mod_lt _ (by omega)) (md_ne ha hb hab) (md_ne hb hc hbc) (md_ne ha hc hac) fr (fun hp50 hH50 F50 B50 => ⟨_, rfl, ?_⟩))
            refine xinc 56 (1) ⟨u21, _, rfl⟩ rfl rfl rfl (by decide) (by omega) (by omega) (fun z53 h53 => ?_)
            refine xinc 59 (1) ⟨u21, _, rfl⟩ rfl rfl rfl (by decide) (by omega) (by omega) (fun z56 h56 => ?_)
            refine xgoto ⟨u21, _, rfl⟩ ?_
            exact ih (k + 1) (n + 1) _ hp50 _ _ _ hH50 (hF.trans F50) B50 (by omega) (by omega) (by omega) (by omega) hX
          · refine xcst 46 (-1) ⟨u21, _, rfl⟩ rfl (by decide) (fun z45 h45 => ?_)
            have nf : ¬ sFree T ((a + k) % V) ((b + k) % V) ((c + k) % V) := by rcases h39 with g | g; omega; exact g.2
            rw [if_neg nf] at hX
            subst hX
            exact xret ⟨u21, _, rfl⟩ rfl (hR _ hp hH hF h45)
        · refine xgoto ⟨u21, _, rfl⟩ ?_
          refine xild 63 ⟨u21, _, rfl⟩ rfl rfl ?_
          rw [if_pos ⟨by omega, by rw [← hrot]; omega⟩] at hX
          subst hX
          exact xret ⟨u21, _, rfl⟩ rfl (hR _ hp hH hF ⟨hm, hB⟩)
theorem k_pat {d : Nat} {hp : amH} {R : xQ} {o V a b c : Nat} {T : sT} {s : Int32} (ho : bo o) (hH : bHk 84 bTT hp) (hB : bdOk hp o V T) (hs : s.toInt = ((m3 a b c : Nat) : Int)) (ha : a < V) (hb : b < V) (hc : c < V) (hab : ¬ a = b) (hbc : ¬ b = c) (hac : ¬ a = c)
    (hR : ∀ (r : Int32) hp1, bHk 84 bTT hp1 → bFx [o + 1, o + 3] hp hp1 → (match sDv V a b c V 0 T 0 with
      | none => r.toInt = -1
      | some q => r.toInt = (q.2 : Int) ∧ bdOk hp1 o V q.1) → R (.inl (some (.int r))) hp1) : xK (d + 3) 21 [.ref o, .int s] hp R := by
  refine xin (M := am_m21) rfl rfl (by unfold xAv; simp [amOk, bo_lt ho, Value.category]) ?_
  refine xcst 1 (0) ⟨u21, _, rfl⟩ rfl (by decide) (fun z0 h0 => ?_)
  refine xist 2 ⟨u21, _, rfl⟩ rfl rfl ?_
  refine xcst 3 (0) ⟨u21, _, rfl⟩ rfl (by decide) (fun z2 h2 => ?_)
  refine xist 4 ⟨u21, _, rfl⟩ rfl rfl ?_
  refine xpad 1 ?_
  exact l21 ho hs ha hb hc hab hbc hac hR V 0 0 T hp _ _ _ hH bFx.refl hB (by omega) (by omega) (by omega) (by omega) rfl
