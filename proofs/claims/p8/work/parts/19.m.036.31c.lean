/-! ===== a system built of the triples of another, one by one (pure) ===== -/
/-- the number of the triple of a pair: its two smaller points -/
def cd (T : sT) (u v : Nat) : Nat := 15 * min u (min v (T u v).toNat) + (u + v + (T u v).toNat - min u (min v (T u v).toNat) - max u (max v (T u v).toNat))
/-- the triples numbered below n, moved by a map of points -/
def pG (σ : Nat → Nat) (T : sT) : Nat → sT
  | 0 => sE
  | n + 1 => if trB T n = true then sPut (pG σ T n) (σ (n / 15)) (σ (n % 15)) (σ (T (n / 15) (n % 15)).toNat) else pG σ T n
/-- a map of the points onto themselves -/
def sPm (V : Nat) (σ : Nat → Nat) : Prop := (∀ u, u < V → σ u < V) ∧ (∀ u v, u < V → v < V → σ u = σ v → u = v) ∧ ∀ p, p < V → ∃ u, u < V ∧ σ u = p
theorem sPm_id {V : Nat} : sPm V id := ⟨fun _ h => h, fun _ _ _ _ h => h, fun p h => ⟨p, h, rfl⟩⟩
theorem cd_of {V : Nat} {T : sT} (hT : sOk V T) {u v : Nat} (h : ¬ T u v = -1) : trB T (cd T u v) = true ∧ cd T u v < 225 ∧ sPr (cd T u v / 15) (cd T u v % 15) (T (cd T u v / 15) (cd T u v % 15)).toNat u v := by
  obtain ⟨w, ew, h1, h2, h3, h4, h5, h6, t1, t2, t3, t4, t5⟩ := sOk_at hT rfl h
  have hV := hT.2.1
  unfold cd
  rw [ew, Int.toNat_natCast]
  rcases Nat.lt_trichotomy u v with a | a | a
  · rcases Nat.lt_trichotomy v w with b | b | b
    · -- u < v < w
      have e : 15 * min u (min v w) + (u + v + w - min u (min v w) - max u (max v w)) = 15 * u + v := by omega
      rw [e, show (15 * u + v) / 15 = u by omega, show (15 * u + v) % 15 = v by omega, ew, Int.toNat_natCast]
      exact ⟨decide_eq_true (by rw [show (15 * u + v) / 15 = u by omega, show (15 * u + v) % 15 = v by omega, ew]; omega), by omega, by omega⟩
    · omega
    · rcases Nat.lt_trichotomy u w with c | c | c
      · -- u < w < v
        have e : 15 * min u (min v w) + (u + v + w - min u (min v w) - max u (max v w)) = 15 * u + w := by omega
        rw [e, show (15 * u + w) / 15 = u by omega, show (15 * u + w) % 15 = w by omega, t2, Int.toNat_natCast]
        exact ⟨decide_eq_true (by rw [show (15 * u + w) / 15 = u by omega, show (15 * u + w) % 15 = w by omega, t2]; omega), by omega, by omega⟩
      · omega
      · -- w < u < v
        have e : 15 * min u (min v w) + (u + v + w - min u (min v w) - max u (max v w)) = 15 * w + u := by omega
        rw [e, show (15 * w + u) / 15 = w by omega, show (15 * w + u) % 15 = u by omega, t4, Int.toNat_natCast]
        exact ⟨decide_eq_true (by rw [show (15 * w + u) / 15 = w by omega, show (15 * w + u) % 15 = u by omega, t4]; omega), by omega, by omega⟩
  · omega
  · rcases Nat.lt_trichotomy u w with b | b | b
    · -- v < u < w
      have e : 15 * min u (min v w) + (u + v + w - min u (min v w) - max u (max v w)) = 15 * v + u := by omega
      rw [e, show (15 * v + u) / 15 = v by omega, show (15 * v + u) % 15 = u by omega, t1, Int.toNat_natCast]
      exact ⟨decide_eq_true (by rw [show (15 * v + u) / 15 = v by omega, show (15 * v + u) % 15 = u by omega, t1]; omega), by omega, by omega⟩
    · omega
    · rcases Nat.lt_trichotomy v w with c | c | c
      · -- v < w < u
        have e : 15 * min u (min v w) + (u + v + w - min u (min v w) - max u (max v w)) = 15 * v + w := by omega
        rw [e, show (15 * v + w) / 15 = v by omega, show (15 * v + w) % 15 = w by omega, t3, Int.toNat_natCast]
        exact ⟨decide_eq_true (by rw [show (15 * v + w) / 15 = v by omega, show (15 * v + w) % 15 = w by omega, t3]; omega), by omega, by omega⟩
      · omega
      · -- w < v < u
        have e : 15 * min u (min v w) + (u + v + w - min u (min v w) - max u (max v w)) = 15 * w + v := by omega
        rw [e, show (15 * w + v) / 15 = w by omega, show (15 * w + v) % 15 = v by omega, t5, Int.toNat_natCast]
        exact ⟨decide_eq_true (by rw [show (15 * w + v) / 15 = w by omega, show (15 * w + v) % 15 = v by omega, t5]; omega), by omega, by omega⟩
/-- the pairs of the triple numbered n -/
theorem cd_pr {V : Nat} {T : sT} (hT : sOk V T) {n u v : Nat} (hn : trB T n = true) (h : sPr (n / 15) (n % 15) (T (n / 15) (n % 15)).toNat u v) : ((u : Nat) : Int) + v + T u v = ((n / 15 : Nat) : Int) + ((n % 15 : Nat) : Int) + T (n / 15) (n % 15) ∧ ¬ T u v = -1 ∧ cd T u v = n := by
  obtain ⟨z, ez, h1, h2, h3⟩ := tr_pts hT hn
  have hV := hT.2.1
  generalize hx : n / 15 = x at *
  generalize hy : n % 15 = y at *
  rw [ez, Int.toNat_natCast] at h
  obtain ⟨k, ek, -, -, -, k1, k2, k3, t1, t2, t3, t4, t5⟩ := sOk_at hT ez (by omega)
  have : k = z := by omega
  subst this
  obtain ⟨g0, g1, g2⟩ := h
  have en : n = 15 * x + y := by omega
  unfold cd
  rcases g1 with g1 | g1 | g1 <;> rcases g2 with g2 | g2 | g2 <;> rw [g1, g2] <;> first | exact absurd (g1.trans g2.symm) g0 | (simp only [ez, t1, t2, t3, t4, t5, Int.toNat_natCast]; refine ⟨?_, ?_, ?_⟩ <;> first | trivial | omega)
theorem cd_lt {V : Nat} {T : sT} (hT : sOk V T) {u v : Nat} (h : ¬ T u v = -1) : cd T u v < 225 := (cd_of hT h).2.1
theorem pG_s {V : Nat} {T : sT} {σ : Nat → Nat} (hT : sOk V T) (hs : sPm V σ) : ∀ n, sOk V (pG σ T n) ∧ (∀ p q, ¬ (p < V ∧ q < V) → pG σ T n p q = -1) ∧ ∀ u v, u < V → v < V → (pG σ T n (σ u) (σ v) = (((σ (T u v).toNat : Nat)) : Int) ∧ ¬ T u v = -1 ∧ cd T u v < n) ∨ (pG σ T n (σ u) (σ v) = -1 ∧ (¬ T u v = -1 → n ≤ cd T u v))
  | 0 => ⟨sOk_E hT.1 hT.2.1, fun _ _ _ => rfl, fun u v _ _ => Or.inr ⟨rfl, fun _ => Nat.zero_le _⟩⟩
  | n + 1 => by
    obtain ⟨i1, i2, i3⟩ := pG_s hT hs n
    by_cases hb : trB T n = true
    · have e : pG σ T (n + 1) = sPut (pG σ T n) (σ (n / 15)) (σ (n % 15)) (σ (T (n / 15) (n % 15)).toNat) := by
        show (if trB T n = true then _ else _) = _
        rw [if_pos hb]
      obtain ⟨z, ez, h1, h2, h3⟩ := tr_pts hT hb
      have hcd := fun u v => cd_pr hT (u := u) (v := v) hb
      have hV := hT.2.1
      have hcd2 : ∀ u v, ¬ T u v = -1 → cd T u v = n → sPr (n / 15) (n % 15) z u v := fun u v hne en => by
        have g3 := (cd_of hT hne).2.2
        rw [en, ez, Int.toNat_natCast] at g3
        exact g3
      rw [ez, Int.toNat_natCast] at hcd e
      generalize n / 15 = x at *
      generalize n % 15 = y at *
      obtain ⟨s1, s2, s3⟩ := hs
      have free : ∀ u v, sPr x y z u v → pG σ T n (σ u) (σ v) = -1 := fun u v hp => by
        obtain ⟨c1, c2, c3⟩ := hcd u v hp
        rcases i3 u v (by omega) (by omega) with g | g
        · have := g.2.2; omega
        · exact g.1
      have hinj : ∀ u v, u < V → v < V → (sPr (σ x) (σ y) (σ z) (σ u) (σ v) ↔ sPr x y z u v) := fun u v hu hv => by
        constructor
        · rintro ⟨g0, g1, g2⟩
          refine ⟨fun z => g0 (by rw [z]), ?_, ?_⟩
          · rcases g1 with g | g | g
            · exact Or.inl (s2 _ _ hu (by omega) g)
            · exact Or.inr (Or.inl (s2 _ _ hu (by omega) g))
            · exact Or.inr (Or.inr (s2 _ _ hu (by omega) g))
          · rcases g2 with g | g | g
            · exact Or.inl (s2 _ _ hv (by omega) g)
            · exact Or.inr (Or.inl (s2 _ _ hv (by omega) g))
            · exact Or.inr (Or.inr (s2 _ _ hv (by omega) g))
        · rintro ⟨g0, g1, g2⟩
          refine ⟨fun z => g0 (s2 _ _ hu hv z), ?_, ?_⟩
          · rcases g1 with rfl | rfl | rfl <;> simp
          · rcases g2 with rfl | rfl | rfl <;> simp
      have dx : ¬ σ x = σ y := fun z => by have := s2 _ _ (by omega) (by omega) z; omega
      have dy : ¬ σ y = σ z := fun z => by have := s2 _ _ (by omega) (by omega) z; omega
      have dz : ¬ σ x = σ z := fun z => by have := s2 _ _ (by omega) (by omega) z; omega
      have bx := s1 x (by omega)
      have bY := s1 y (by omega)
      have bz := s1 z (by omega)
      rw [e]
      refine ⟨sOk_put i1 bx bY bz dx dy dz ⟨free x y ⟨by omega, by omega, by omega⟩, free y z ⟨by omega, by omega, by omega⟩, free x z ⟨by omega, by omega, by omega⟩⟩, fun p q hpq => ?_, fun u v hu hv => ?_⟩
      · unfold sPut
        rw [if_neg (fun g => hpq (by obtain ⟨-, g1, g2⟩ := g; omega))]
        exact i2 p q hpq
      · unfold sPut
        by_cases hp : sPr x y z u v
        · rw [if_pos ((hinj u v hu hv).mpr hp)]
          obtain ⟨c1, c2, c3⟩ := hcd u v hp
          refine Or.inl ⟨?_, c2, by omega⟩
          obtain ⟨g0, g1, g2⟩ := hp
          rcases g1 with rfl | rfl | rfl <;> rcases g2 with rfl | rfl | rfl <;> first | exact absurd rfl g0 | skip
          · rw [show (T u v).toNat = z by omega]; omega
          · rw [show (T u v).toNat = y by omega]; omega
          · rw [show (T u v).toNat = z by omega]; omega
          · rw [show (T u v).toNat = x by omega]; omega
          · rw [show (T u v).toNat = y by omega]; omega
          · rw [show (T u v).toNat = x by omega]; omega
        · rw [if_neg (fun g => hp ((hinj u v hu hv).mp g))]
          rcases i3 u v hu hv with g | g
          · exact Or.inl ⟨g.1, g.2.1, by have := g.2.2; omega⟩
          · refine Or.inr ⟨g.1, fun hne => ?_⟩
            have g2 := g.2 hne
            by_cases en : cd T u v = n
            · exact absurd (hcd2 u v hne en) hp
            · omega
    · have e : pG σ T (n + 1) = pG σ T n := by
        show (if trB T n = true then _ else _) = _
        rw [if_neg hb]
      rw [e]
      refine ⟨i1, i2, fun u v hu hv => ?_⟩
      rcases i3 u v hu hv with g | g
      · exact Or.inl ⟨g.1, g.2.1, by have := g.2.2; omega⟩
      · refine Or.inr ⟨g.1, fun hne => ?_⟩
        have g2 := g.2 hne
        by_cases en : cd T u v = n
        · exact absurd (by rw [← en]; exact (cd_of hT hne).1) hb
        · omega
