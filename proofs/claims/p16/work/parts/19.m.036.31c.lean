/-! ##### 19.m.036.31c ##### -/
section
/-! ===== a system built of the triples of another, one by one (pure) ===== -/
/-- the number of the triple of a pair: its two smaller points -/
def cd (T : sT) (u v : Nat) : Nat := 15 * min u (min v (T u v).toNat) + (u + v + (T u v).toNat - min u (min v (T u v).toNat) - max u (max v (T u v).toNat))
/-- the triples numbered below n, moved by a map of points -/
def pG (σ : Nat → Nat) (T : sT) : Nat → sT
  | 0 => sE
  | n + 1 => if trB T n = true then sPut (pG σ T n) (σ (n / 15)) (σ (n % 15)) (σ (T (n / 15) (n % 15)).toNat) else pG σ T n
/-- a map of the points onto themselves -/
def sPm (V : Nat) (σ : Nat → Nat) : Prop := (∀ u, u < V → σ u < V) ∧ (∀ u v, u < V → v < V → σ u = σ v → u = v) ∧ ∀ p, p < V → ∃ u, u < V ∧ σ u = p
theorem sPm_id {V : Nat} : sPm V id := ⟨fun _ h => h, fun _ _ _ _ h => h, fun p h => ⟨p, h, rfl⟩⟩
theorem cd_of {V : Nat} {T : sT} (hT : sOk V T) {u v : Nat} (h : ¬ T u v = -1) : trB T (cd T u v) = true ∧ cd T u v < 225 ∧ sPr (cd T u v / 15) (cd T u v % 15) (T (cd T u v / 15) (cd T u v % 15)).toNat u v := by
  obtain ⟨w, ew, h1, h2, h3, h4, h5, h6, t1, t2, t3, t4, t5⟩ := sOk_at hT rfl h
  have hV := hT.2.1
  unfold cd
  rw [ew, Int.toNat_natCast]
  rcases Nat.lt_trichotomy u v with a | a | a
  · rcases Nat.lt_trichotomy v w with b | b | b
    · -- u < v < w
      have e : 15 * min u (min v w) + (u + v + w - min u (min v w) - max u (max v w)) = 15 * u + v := by omega
      rw [e, show (15 * u + v) / 15 = u by omega, show (15 * u + v) % 15 = v by omega, ew, Int.toNat_natCast]
      exact ⟨decide_eq_true (by rw [show (15 * u + v) / 15 = u by omega, show (15 * u + v) % 15 = v by omega, ew]; omega), by omega, by omega⟩
    · omega
    · rcases Nat.lt_trichotomy u w with c | c | c
      · -- u < w < v
        have e : 15 * min u (min v w) + (u + v + w - min u (min v w) - max u (max v w)) = 15 * u + w := by omega
        rw [e, show (15 * u + w) / 15 = u by omega, show (15 * u + w) % 15 = w by omega, t2, Int.toNat_natCast]
        exact ⟨decide_eq_true (by rw [show (15 * u + w) / 15 = u by omega, show (15 * u + w) % 15 = w by omega, t2]; omega), by omega, by omega⟩
      · omega
      · -- w < u < v
        have e : 15 * min u (min v w) + (u + v + w - min u (min v w) - max u (max v w)) = 15 * w + u := by omega
        rw [e, show (15 * w + u) / 15 = w by omega, show (15 * w + u) % 15 = u by omega, t4, Int.toNat_natCast]
        exact ⟨decide_eq_true (by rw [show (15 * w + u) / 15 = w by omega, show (15 * w + u) % 15 = u by omega, t4]; omega), by omega, by omega⟩
  · omega
  · rcases Nat.lt_trichotomy u w with b | b | b
    · -- v < u < w
      have e : 15 * min u (min v w) + (u + v + w - min u (min v w) - max u (max v w)) = 15 * v + u := by omega
      rw [e, show (15 * v + u) / 15 = v by omega, show (15 * v + u) % 15 = u by omega, t1, Int.toNat_natCast]
      exact ⟨decide_eq_true (by rw [show (15 * v + u) / 15 = v by omega, show (15 * v + u) % 15 = u by omega, t1]; omega), by omega, by omega⟩
    · omega
    · rcases Nat.lt_trichotomy v w with c | c | c
      · -- v < w < u
        have e : 15 * min u (min v w) + (u + v + w - min u (min v w) - max u (max v w)) = 15 * v + w := by omega
        rw [e, show (15 * v + w) / 15 = v by omega, show (15 * v + w) % 15 = w by omega, t3, Int.toNat_natCast]
        exact ⟨decide_eq_true (by rw [show (15 * v + w) / 15 = v by omega, show (15 * v + w) % 15 = w by omega, t3]; omega), by omega, by omega⟩
      · omega
      · -- w < v < u
        have e : 15 * min u (min v w) + (u + v + w - min u (min v w) - max u (max v w)) = 15 * w + v := by omega
        rw [e, show (15 * w + v) / 15 = w by omega, show (15 * w + v) % 15 = v by omega, t5, Int.toNat_natCast]
        exact ⟨decide_eq_true (by rw [show (15 * w + v) / 15 = w by omega, show (15 * w + v) % 15 = v by omega, t5]; omega), by omega, by omega⟩
/-- the pairs of the triple numbered n -/
theorem cd_pr {V : Nat} {T : sT} (hT : sOk V T) {n u v : Nat} (hn : trB T n = true) (h : sPr (n / 15) (n % 15) (T (n / 15) (n % 15)).toNat u v) : ((u : Nat) : Int) + v + T u v = ((n / 15 : Nat) : Int) + ((n % 15 : Nat) : Int) + T (n / 15) (n % 15) ∧ ¬ T u v = -1 ∧ cd T u v = n := by
  obtain ⟨z, ez, h1, h2, h3⟩ := tr_pts hT hn
  have hV := hT.2.1
  generalize hx : n / 15 = x at *
  generalize hy : n % 15 = y at *
  rw [ez, Int.toNat_natCast] at h
  obtain ⟨k, ek, -, -, -, k1, k2, k3, t1, t2, t3, t4, t5⟩ := sOk_at hT ez (by omega)
  have : k = z := by omega
  subst this
  obtain ⟨g0, g1, g2⟩ := h
  have en : n = 15 * x + y := by omega
  unfold cd
  rcases g1 with g1 | g1 | g1 <;> rcases g2 with g2 | g2 | g2 <;> rw [g1, g2] <;> first | exact absurd (g1.trans g2.symm) g0 | (simp only [ez, t1, t2, t3, t4, t5, Int.toNat_natCast]; refine ⟨?_, ?_, ?_⟩ <;> first | trivial | omega)
theorem cd_lt {V : Nat} {T : sT} (hT : sOk V T) {u v : Nat} (h : ¬ T u v = -1) : cd T u v < 225 := (cd_of hT h).2.1
theorem pG_s {V : Nat} {T : sT} {σ : Nat → Nat} (hT : sOk V T) (hs : sPm V σ) : ∀ n, sOk V (pG σ T n) ∧ (∀ p q, ¬ (p < V ∧ q < V) → pG σ T n p q = -1) ∧ ∀ u v, u < V → v < V → (pG σ T n (σ u) (σ v) = (((σ (T u v).toNat : Nat)) : Int) ∧ ¬ T u v = -1 ∧ cd T u v < n) ∨ (pG σ T n (σ u) (σ v) = -1 ∧ (¬ T u v = -1 → n ≤ cd T u v))
  | 0 => ⟨sOk_E hT.1 hT.2.1, fun _ _ _ => rfl, fun u v _ _ => Or.inr ⟨rfl, fun _ => Nat.zero_le _⟩⟩
  | n + 1 => by
    obtain ⟨i1, i2, i3⟩ := pG_s hT hs n
    by_cases hb : trB T n = true
    · have e : pG σ T (n + 1) = sPut (pG σ T n) (σ (n / 15)) (σ (n % 15)) (σ (T (n / 15) (n % 15)).toNat) := by
        show (if trB T n = true then _ else _) = _
        rw [if_pos hb]
      obtain ⟨z, ez, h1, h2, h3⟩ := tr_pts hT hb
      have hcd := fun u v => cd_pr hT (u := u) (v := v) hb
      have hV := hT.2.1
      have hcd2 : ∀ u v, ¬ T u v = -1 → cd T u v = n → sPr (n / 15) (n % 15) z u v := fun u v hne en => by
        have g3 := (cd_of hT hne).2.2
        rw [en, ez, Int.toNat_natCast] at g3
        exact g3
      rw [ez, Int.toNat_natCast] at hcd e
      generalize n / 15 = x at *
      generalize n % 15 = y at *
      obtain ⟨s1, s2, s3⟩ := hs
      have free : ∀ u v, sPr x y z u v → pG σ T n (σ u) (σ v) = -1 := fun u v hp => by
        obtain ⟨c1, c2, c3⟩ := hcd u v hp
        rcases i3 u v (by omega) (by omega) with g | g
        · have := g.2.2; omega
        · exact g.1
      have hinj : ∀ u v, u < V → v < V → (sPr (σ x) (σ y) (σ z) (σ u) (σ v) ↔ sPr x y z u v) := fun u v hu hv => by
        constructor
        · rintro ⟨g0, g1, g2⟩
          refine ⟨fun z => g0 (by rw [z]), ?_, ?_⟩
          · rcases g1 with g | g | g
            · exact Or.inl (s2 _ _ hu (by omega) g)
            · exact Or.inr (Or.inl (s2 _ _ hu (by omega) g))
            · exact Or.inr (Or.inr (s2 _ _ hu (by omega) g))
          · rcases g2 with g | g | g
            · exact Or.inl (s2 _ _ hv (by omega) g)
            · exact Or.inr (Or.inl (s2 _ _ hv (by omega) g))
            · exact Or.inr (Or.inr (s2 _ _ hv (by omega) g))
        · rintro ⟨g0, g1, g2⟩
          refine ⟨fun z => g0 (s2 _ _ hu hv z), ?_, ?_⟩
          · rcases g1 with rfl | rfl | rfl <;> simp
          · rcases g2 with rfl | rfl | rfl <;> simp
      have dx : ¬ σ x = σ y := fun z => by have := s2 _ _ (by omega) (by omega) z; omega
      have dy : ¬ σ y = σ z := fun z => by have := s2 _ _ (by omega) (by omega) z; omega
      have dz : ¬ σ x = σ z := fun z => by have := s2 _ _ (by omega) (by omega) z; omega
      have bx := s1 x (by omega)
      have bY := s1 y (by omega)
      have bz := s1 z (by omega)
      rw [e]
      refine ⟨sOk_put i1 bx bY bz dx dy dz ⟨free x y ⟨by omega, by omega, by omega⟩, free y z ⟨by omega, by omega, by omega⟩, free x z ⟨by omega, by omega, by omega⟩⟩, fun p q hpq => ?_, fun u v hu hv => ?_⟩
      · unfold sPut
        rw [if_neg (fun g => hpq (by obtain ⟨-, g1, g2⟩ := g; omega))]
        exact i2 p q hpq
      · unfold sPut
        by_cases hp : sPr x y z u v
        · rw [if_pos ((hinj u v hu hv).mpr hp)]
          obtain ⟨c1, c2, c3⟩ := hcd u v hp
          refine Or.inl ⟨?_, c2, by omega⟩
          obtain ⟨g0, g1, g2⟩ := hp
          rcases g1 with rfl | rfl | rfl <;> rcases g2 with rfl | rfl | rfl <;> first | exact absurd rfl g0 | skip
          · rw [show (T u v).toNat = z by omega]; omega
          · rw [show (T u v).toNat = y by omega]; omega
          · rw [show (T u v).toNat = z by omega]; omega
          · rw [show (T u v).toNat = x by omega]; omega
          · rw [show (T u v).toNat = y by omega]; omega
          · rw [show (T u v).toNat = x by omega]; omega
        · rw [if_neg (fun g => hp ((hinj u v hu hv).mp g))]
          rcases i3 u v hu hv with g | g
          · exact Or.inl ⟨g.1, g.2.1, by have := g.2.2; omega⟩
          · refine Or.inr ⟨g.1, fun hne => ?_⟩
            have g2 := g.2 hne
            by_cases en : cd T u v = n
            · exact absurd (hcd2 u v hne en) hp
            · omega
    · have e : pG σ T (n + 1) = pG σ T n := by
        show (if trB T n = true then _ else _) = _
        rw [if_neg hb]
      rw [e]
      refine ⟨i1, i2, fun u v hu hv => ?_⟩
      rcases i3 u v hu hv with g | g
      · exact Or.inl ⟨g.1, g.2.1, by have := g.2.2; omega⟩
      · refine Or.inr ⟨g.1, fun hne => ?_⟩
        have g2 := g.2 hne
        by_cases en : cd T u v = n
        · exact absurd (by rw [← en]; exact (cd_of hT hne).1) hb
        · omega
end
/-! ##### 19.m.037.31d ##### -/
section
/-! ===== the class gives back what was ===== -/
theorem pG_id {V : Nat} {T : sT} (hT : sOk V T) : pG id T 225 = T := by
  obtain ⟨-, i2, i3⟩ := pG_s hT (sPm_id (V := V)) 225
  funext u v
  by_cases h : u < V ∧ v < V
  · rcases i3 u v h.1 h.2 with g | g
    · obtain ⟨w, ew, -⟩ := sOk_at hT rfl g.2.1
      have g1 : pG id T 225 u v = (((T u v).toNat : Nat) : Int) := g.1
      rw [g1, ew, Int.toNat_natCast]
    · have g1 : pG id T 225 u v = -1 := g.1
      rw [g1]
      by_cases e : T u v = -1
      · exact e.symm
      · have := g.2 e
        have := cd_lt hT e
        omega
  · rw [i2 u v h]
    rcases hT.2.2 u v with g | ⟨c, g1, g2, g3, -⟩
    · exact g.symm
    · exact absurd ⟨g2, g3⟩ h
theorem trL_mono {T : sT} (n : Nat) : ∀ k, (trL T n).length ≤ (trL T (n + k)).length
  | 0 => Nat.le_refl _
  | k + 1 => by
    have := trL_mono (T := T) n k
    have e : (trL T (n + (k + 1))) = (if trB T (n + k) = true then trL T (n + k) ++ [n + k] else trL T (n + k)) := rfl
    rw [e]
    split
    · rw [List.length_append]; omega
    · exact this
theorem pG_len {σ : Nat → Nat} {T : sT} {n : Nat} : ∀ k, (trL T (n + k)).length = (trL T n).length → pG σ T (n + k) = pG σ T n
  | 0, _ => rfl
  | k + 1, h => by
    have e : (trL T (n + (k + 1))) = (if trB T (n + k) = true then trL T (n + k) ++ [n + k] else trL T (n + k)) := rfl
    have e2 : pG σ T (n + (k + 1)) = (if trB T (n + k) = true then sPut (pG σ T (n + k)) (σ ((n + k) / 15)) (σ ((n + k) % 15)) (σ (T ((n + k) / 15) ((n + k) % 15)).toNat) else pG σ T (n + k)) := rfl
    have m := trL_mono (T := T) n k
    rw [e] at h
    rw [e2]
    split at h
    · rw [List.length_append, List.length_singleton] at h
      omega
    · next g =>
      rw [if_neg g]
      exact pG_len k h
theorem pG_eq {σ : Nat → Nat} {T : sT} {n m : Nat} (h : (trL T n).length = (trL T m).length) : pG σ T n = pG σ T m := by
  rcases Nat.le_total n m with g | g
  · obtain ⟨k, rfl⟩ := Nat.exists_eq_add_of_le g
    exact (pG_len k h.symm).symm
  · obtain ⟨k, rfl⟩ := Nat.exists_eq_add_of_le g
    exact pG_len k h
theorem trL_get {T : sT} : ∀ n t, t < (trL T n).length → trB T ((trL T n).getD t 0) = true ∧ (trL T n).getD t 0 < n ∧ (trL T ((trL T n).getD t 0)).length = t
  | 0, t, h => absurd h (Nat.not_lt_zero t)
  | n + 1, t, h => by
    by_cases hb : trB T n = true
    · have e : trL T (n + 1) = trL T n ++ [n] := trL_add hb
      rw [e] at h ⊢
      rw [List.length_append, List.length_singleton] at h
      by_cases g : t = (trL T n).length
      · subst g
        rw [gd_end]
        exact ⟨hb, Nat.lt_succ_self n, rfl⟩
      · rw [gd_app (by omega)]
        obtain ⟨g1, g2, g3⟩ := trL_get (T := T) n t (by omega)
        exact ⟨g1, by omega, g3⟩
    · have e : trL T (n + 1) = trL T n := by
        show (if trB T n = true then _ else _) = _
        rw [if_neg hb]
      rw [e] at h ⊢
      obtain ⟨g1, g2, g3⟩ := trL_get n t h
      exact ⟨g1, by omega, g3⟩
/-- the next triple -/
theorem pG_next {V : Nat} {T : sT} {σ : Nat → Nat} (hT : sOk V T) (hs : sPm V σ) {t m : Nat} (ht : t < (trL T 225).length) (hm : (trL T m).length = t) : ∃ n x y z : Nat, (trL T 225).getD t 0 = n ∧ n / 15 = x ∧ n % 15 = y ∧ T x y = (z : Int) ∧ mk3 T n = m3 x y z ∧ x < y ∧ y < z ∧ z < V ∧ n < 225 ∧ (trL T (n + 1)).length = t + 1 ∧ pG σ T (n + 1) = sPut (pG σ T m) (σ x) (σ y) (σ z) ∧ sFree (pG σ T m) (σ x) (σ y) (σ z) := by
  obtain ⟨g1, g2, g3⟩ := trL_get 225 t ht
  obtain ⟨z, ez, h1, h2, h3⟩ := tr_pts hT g1
  generalize hn : (trL T 225).getD t 0 = n at *
  have e : pG σ T n = pG σ T m := pG_eq (g3.trans hm.symm)
  have el : (trL T (n + 1)).length = t + 1 := by rw [trL_add g1, List.length_append, List.length_singleton, g3]
  refine ⟨n, n / 15, n % 15, z, rfl, rfl, rfl, ez, by unfold mk3; rw [ez, Int.toNat_natCast], h1, h2, h3, g2, el, ?_, ?_⟩
  · show (if trB T n = true then _ else _) = _
    rw [if_pos g1, e, ez, Int.toNat_natCast]
  · obtain ⟨-, -, i3⟩ := pG_s hT hs n
    rw [e] at i3
    have q := fun u v hp => cd_pr hT (u := u) (v := v) g1 hp
    rw [ez, Int.toNat_natCast] at q
    have fr : ∀ u v, u < V → v < V → sPr (n / 15) (n % 15) z u v → pG σ T m (σ u) (σ v) = -1 := fun u v hu hv hp => by
      rcases i3 u v hu hv with k | k
      · have := (q u v hp).2.2
        have := k.2.2
        omega
      · exact k.1
    exact ⟨fr _ _ (by omega) (by omega) ⟨by omega, by omega, by omega⟩, fr _ _ (by omega) (by omega) ⟨by omega, by omega, by omega⟩, fr _ _ (by omega) (by omega) ⟨by omega, by omega, by omega⟩⟩
theorem l90 {d : Nat} {hp0 : amH} {R : xQ} {s V : Nat} {T : sT} {ty : Nat → Int} (hs : sn s) (F2 : snF hp0 s) (hS : snOk hp0 s (V, T, ty))
    (hR : ∀ hp1, bHk 84 bTT hp1 → bFx [3, 4, 6, 13] hp0 hp1 → bdOk hp1 3 V T → (∀ i, i < 3 → rN hp1 13 i = ty i) → R (.inl none) hp1) :
    ∀ (jj t m : Nat) (w : Int32) (hp : amH), w.toInt = (t : Int) → t + jj = (trL T 225).length → (trL T m).length = t → bHk 84 bTT hp → bFx [3, 4, 6] hp0 hp → bdOk hp 3 V (pG id T m) → xV (d + 3) am_m90 10 [some (.ref s), some (.ref 3), some (.ref 13), some (.int w)] [] hp R := by
  have c := sn_c hs
  have S1 : rN hp0 s 1 = (((trL T 225).length : Nat) : Int) := hS.2.2.2.1
  have hT : sOk V T := hS.2.1
  have hV := hT.2.1
  have l35 := trL_35 hT 225
  intro jj
  induction jj with
  | zero =>
    intro t m w hp hw hj hm hH hF hB
    have f2 := (hF s 2 (by simp; omega)).trans F2.1
    have f3 := (hF s 3 (by simp; omega)).trans F2.2
    have e1 : rN hp s 1 = rN hp0 s 1 := bFx_n hF (by simp; omega)
    have eT : pG id T m = T := (pG_eq (by omega)).trans (pG_id hT)
    rw [eT] at hB
    refine xild 11 ⟨u90, _, rfl⟩ rfl rfl ?_
    refine xald 12 ⟨u90, _, rfl⟩ rfl rfl ?_
    refine xgetC 15 hH ⟨u90, _, rfl⟩ rfl (sn_lt hs) (by decide) (sn_T hs) rfl (by decide) (fun z12 h12 => ?_)
    refine xcmp_ge 18 ⟨u90, _, rfl⟩ rfl (fun c15 => ?_) (fun c15 => ?_)
    · refine xald 44 ⟨u90, _, rfl⟩ rfl rfl ?_
      refine xald 45 ⟨u90, _, rfl⟩ rfl rfl ?_
      refine xgetF 48 (s + 2) hH ⟨u90, _, rfl⟩ rfl (sn_lt hs) (by decide) (sn_T hs) (f3) ?_
      refine xcallC 51 (o := 13) [.ref (s + 2)] [] hH ⟨u90, _, rfl⟩ rfl rfl (by decide) rfl (by decide) rfl ⟨rfl, rfl, rfl, rfl⟩ rfl (k_tyc (Or.inl rfl) (Or.inr ⟨s, hs, rfl⟩) (by omega) hH (fun hp48 hH48 F48 E48 => ⟨_, rfl, ?_⟩))
      exact xretV ⟨u90, _, rfl⟩ rfl (hR _ hH48 ((hF.mono (by simp)).trans (F48.mono (by simp))) (bdOk_fr hB (bFx_n F48 (by simp)) (fun i => bFx_n F48 (by simp)) (fun i => bFx_n F48 (by simp))) (fun i hi => by rw [E48 i hi, bFx_n hF (by simp; omega)]; exact hS.2.2.2.2.2 i hi))
    · omega
  | succ jj ih =>
    intro t m w hp hw hj hm hH hF hB
    have f2 := (hF s 2 (by simp; omega)).trans F2.1
    have f3 := (hF s 3 (by simp; omega)).trans F2.2
    have e1 : rN hp s 1 = rN hp0 s 1 := bFx_n hF (by simp; omega)
    obtain ⟨n, x, y, z, k1, k2, k3, k4, k5, k6, k7, k8, k9, k10, k11, k12⟩ := pG_next hT (sPm_id (V := V)) (t := t) (by omega) hm
    have k11 : pG id T (n + 1) = sPut (pG id T m) x y z := k11
    have k12 : sFree (pG id T m) x y z := k12
    have q1 : rN hp (s + 1) t = ((m3 x y z : Nat) : Int) := by
      rw [bFx_n hF (by simp; omega), ← k5, ← k1]
      exact hS.2.2.2.2.1 t (by show t < (trL T 225).length; omega)
    refine xild 11 ⟨u90, _, rfl⟩ rfl rfl ?_
    refine xald 12 ⟨u90, _, rfl⟩ rfl rfl ?_
    refine xgetC 15 hH ⟨u90, _, rfl⟩ rfl (sn_lt hs) (by decide) (sn_T hs) rfl (by decide) (fun z12 h12 => ?_)
    refine xcmp_ge 18 ⟨u90, _, rfl⟩ rfl (fun c15 => ?_) (fun c15 => ?_)
    · omega
    · refine xild 19 ⟨u90, _, rfl⟩ rfl rfl ?_
      refine xald 20 ⟨u90, _, rfl⟩ rfl rfl ?_
      refine xgetF 23 (s + 1) hH ⟨u90, _, rfl⟩ rfl (sn_lt hs) (by decide) (sn_T hs) (f2) ?_
      refine xlen 24 hH ⟨u90, _, rfl⟩ rfl (sn_lt1 hs) (sn_T1 hs) (by decide) (by decide) (fun z23 h23 => ?_)
      refine xcmp_ge 27 ⟨u90, _, rfl⟩ rfl (fun c24 => ?_) (fun c24 => ?_)
      · omega
      · refine xald 28 ⟨u90, _, rfl⟩ rfl rfl ?_
        refine xald 29 ⟨u90, _, rfl⟩ rfl rfl ?_
        refine xgetF 32 (s + 1) hH ⟨u90, _, rfl⟩ rfl (sn_lt hs) (by decide) (sn_T hs) (f2) ?_
        refine xild 33 ⟨u90, _, rfl⟩ rfl rfl ?_
        refine xiald 34 (w).toInt.toNat hH ⟨u90, _, rfl⟩ rfl (sn_lt1 hs) (sn_T1 hs) (by omega) (by omega) (fun z33 h33 => ?_)
        refine xcallC 37 (o := 3) [.int _] [] hH ⟨u90, _, rfl⟩ rfl rfl (by decide) rfl (by decide) rfl ⟨rfl, rfl, rfl, rfl⟩ rfl (k_bput (Or.inl rfl) hH hB (x := x) (y := y) (z := z) (by rw [h33, show w.toInt.toNat = t by omega]; exact q1) (by omega) (by omega) (by omega) k12 (fun hp34 hH34 F34 B34 => ⟨_, rfl, ?_⟩))
        refine xinc 40 (1) ⟨u90, _, rfl⟩ rfl rfl rfl (by decide) (by omega) (by omega) (fun z37 h37 => ?_)
        refine xgoto ⟨u90, _, rfl⟩ ?_
        exact ih (t + 1) (n + 1) _ hp34 (by omega) (by omega) k10 hH34 (hF.trans (F34.mono (by simp))) (by rw [k11]; exact B34)
/-- a snapshot given back -/
theorem k_gvb {d : Nat} {hp : amH} {R : xQ} {s V : Nat} {T : sT} {ty : Nat → Int} (hs : sn s) (F2 : snF hp s) (hS : snOk hp s (V, T, ty)) (hH : bHk 84 bTT hp)
    (hR : ∀ hp1, bHk 84 bTT hp1 → bFx [3, 4, 6, 13] hp hp1 → bdOk hp1 3 V T → (∀ i, i < 3 → rN hp1 13 i = ty i) → R (.inl none) hp1) : xK (d + 3) 90 [.ref s, .ref 3, .ref 13] hp R := by
  have c := sn_c hs
  have S0 : rN hp s 0 = (V : Int) := hS.1
  have hT : sOk V T := hS.2.1
  refine xin (M := am_m90) rfl rfl (by unfold xAv; simp [amOk, sn_lt hs, Value.category]) ?_
  refine xald 1 ⟨u90, _, rfl⟩ rfl rfl ?_
  refine xald 2 ⟨u90, _, rfl⟩ rfl rfl ?_
  refine xgetC 5 hH ⟨u90, _, rfl⟩ rfl (sn_lt hs) (by decide) (sn_T hs) rfl (by decide) (fun z2 h2 => ?_)
  refine xcallC 8 (o := 3) [.int _] [] hH ⟨u90, _, rfl⟩ rfl rfl (by decide) rfl (by decide) rfl ⟨rfl, rfl, rfl, rfl⟩ rfl (k_rst (o := 3) (Or.inl rfl) hH (V := V) (by omega) hT.1 hT.2.1 (fun hp5 hH5 F5 B5 z5 => ⟨_, rfl, ?_⟩))
  refine xcst 9 (0) ⟨u90, _, rfl⟩ rfl (by decide) (fun z8 h8 => ?_)
  refine xist 10 ⟨u90, _, rfl⟩ rfl rfl ?_
  exact l90 hs ⟨(F5 s 2 (by simp; omega)).trans F2.1, (F5 s 3 (by simp; omega)).trans F2.2⟩ (snOk_fr hS (fun c c1 c2 k => F5 c k (by simp; omega))) (fun hp1 k1 k2 k3 k4 => hR hp1 k1 ((F5.mono (by simp)).trans k2) k3 k4) (trL T 225).length 0 0 _ hp5 (by omega) (by omega) rfl hH5 bFx.refl B5
end
/-! ##### 19.m.038.31e ##### -/
section
/-! ===== the class takes back, saves, restores ===== -/
theorem hyC_fr {hp hp1 : amH} {n : Nat} {h : Nat → sR} {sv : Option sR} (hY : hyC hp n h sv) (F : ∀ c k, 14 ≤ c → c ≤ 48 → bFld hp1 c k = bFld hp c k) : hyC hp1 n h sv := by
  obtain ⟨y1, y2, y3, ⟨f, hA, y4⟩, y5⟩ := hY
  refine ⟨(rN_eq (F 14 0 (by decide) (by decide))).trans y1, y2, fun s hs => ?_, ⟨f, ⟨fun k hk => ⟨(hA.1 k hk).1, (hA.1 k hk).2.1, (F 15 k (by decide) (by decide)).trans (hA.1 k hk).2.2⟩, hA.2⟩, fun k hk => ?_⟩, hyS_fr y5 (rN_eq (F 14 3 (by decide) (by decide))) (fun c c1 c2 k => F c k (by omega) (by omega))⟩
  · have := sn_mod hs
    exact ⟨(F s 2 (by omega) (by omega)).trans (y3 s hs).1, (F s 3 (by omega) (by omega)).trans (y3 s hs).2⟩
  · have := sn_mod (hA.1 k (by omega)).1
    exact snOk_fr (y4 k hk) (fun c c1 c2 j => F c j (by omega) (by omega))
/-- the depth set -/
theorem hyC_dep {hp hp1 : amH} {n m : Nat} {h : Nat → sR} {sv : Option sR} {z : Int} (hY : hyC hp n h sv) (U : rU hp hp1 14 0 z) (hz : z = (m : Int)) (hm : m ≤ n) : hyC hp1 m h sv := by
  obtain ⟨y1, y2, y3, ⟨f, hA, y4⟩, y5⟩ := hY
  refine ⟨U.1.trans hz, by omega, fun s hs => ?_, ⟨f, ⟨fun k hk => ⟨(hA.1 k hk).1, (hA.1 k hk).2.1, (U.2 15 k (by omega)).trans (hA.1 k hk).2.2⟩, hA.2⟩, fun k hk => ?_⟩, hyS_fr y5 (rU_ne U (by omega)) (fun c c1 c2 k => U.2 c k (by omega))⟩
  · have := sn_mod hs
    exact ⟨(U.2 s 2 (by omega)).trans (y3 s hs).1, (U.2 s 3 (by omega)).trans (y3 s hs).2⟩
  · have := sn_mod (hA.1 k (by omega)).1
    exact snOk_fr (y4 k (by omega)) (fun c c1 c2 j => U.2 c j (by omega))
theorem k_tkb {d n : Nat} {h : Nat → sR} {sv : Option sR} {hp : amH} {R : xQ} (hH : bHk 84 bTT hp) (hY : hyC hp n h sv)
    (hR : ∀ (z : Int32) hp1, bHk 84 bTT hp1 → bFx [3, 4, 6, 13, 14] hp hp1 → ((n = 0 ∧ z.toInt = 0 ∧ hp1 = hp) ∨ (0 < n ∧ z.toInt = 1 ∧ hyC hp1 (n - 1) h sv ∧ bdOk hp1 3 (h (n - 1)).1 (h (n - 1)).2.1 ∧ ∀ i, i < 3 → rN hp1 13 i = (h (n - 1)).2.2 i)) → R (.inl (some (.int z))) hp1) : xK (d + 4) 52 [.ref 14, .ref 3, .ref 13] hp R := by
  obtain ⟨y1, y2, y3, ⟨f, hA, y4⟩, y5⟩ := id hY
  refine xin (M := am_m52) rfl rfl rfl ?_
  refine xald 1 ⟨u52, _, rfl⟩ rfl rfl ?_
  refine xgetC 4 hH ⟨u52, _, rfl⟩ rfl (by decide) (by decide) rfl rfl (by decide) (fun z1 h1 => ?_)
  refine xcst 5 (1) ⟨u52, _, rfl⟩ rfl (by decide) (fun z4 h4 => ?_)
  refine xcmp_lt 8 ⟨u52, _, rfl⟩ rfl (fun c5 => ?_) (fun c5 => ?_)
  · refine xcst 35 (0) ⟨u52, _, rfl⟩ rfl (by decide) (fun z34 h34 => ?_)
    exact xretB ⟨u52, _, rfl⟩ rfl (by omega) (hR _ hp hH bFx.refl (Or.inl ⟨by omega, h34, rfl⟩))
  · refine xald 9 ⟨u52, _, rfl⟩ rfl rfl ?_
    refine xgetC 12 hH ⟨u52, _, rfl⟩ rfl (by decide) (by decide) rfl rfl (by decide) (fun z9 h9 => ?_)
    refine xald 13 ⟨u52, _, rfl⟩ rfl rfl ?_
    refine xgetD 16 (15) hH ⟨u52, _, rfl⟩ rfl (by decide) (by decide) rfl rfl (by decide) ?_
    refine xlen 17 hH ⟨u52, _, rfl⟩ rfl (by decide) rfl (by decide) (by decide) (fun z16 h16 => ?_)
    refine xcmp_gt 20 ⟨u52, _, rfl⟩ rfl (fun c17 => ?_) (fun c17 => ?_)
    · omega
    · obtain ⟨m1, m2, m3⟩ := hA.1 (n - 1) (by omega)
      have mm := sn_mod m1
      refine xald 21 ⟨u52, _, rfl⟩ rfl rfl ?_
      refine xgetD 24 (15) hH ⟨u52, _, rfl⟩ rfl (by decide) (by decide) rfl rfl (by decide) ?_
      refine xald 25 ⟨u52, _, rfl⟩ rfl rfl ?_
      refine xgetC 28 hH ⟨u52, _, rfl⟩ rfl (by decide) (by decide) rfl rfl (by decide) (fun z25 h25 => ?_)
      refine xcst 29 (1) ⟨u52, _, rfl⟩ rfl (by decide) (fun z28 h28 => ?_)
      refine xsub 30 _ ⟨u52, _, rfl⟩ rfl rfl (by omega) (by omega) (fun z29 h29 => ?_)
      refine xaald 31 (n - 1) (f (n - 1)) hH ⟨u52, _, rfl⟩ rfl (by decide) rfl (by omega) (by omega) (m3) ?_
      refine xnonnull ⟨u52, _, rfl⟩ ?_
      refine xald 37 ⟨u52, _, rfl⟩ rfl rfl ?_
      refine xdup 38 ⟨u52, _, rfl⟩ rfl rfl ?_
      refine xgetC 41 hH ⟨u52, _, rfl⟩ rfl (by decide) (by decide) rfl rfl (by decide) (fun z38 h38 => ?_)
      refine xcst 42 (1) ⟨u52, _, rfl⟩ rfl (by decide) (fun z41 h41 => ?_)
      refine xsub 43 _ ⟨u52, _, rfl⟩ rfl rfl (by omega) (by omega) (fun z42 h42 => ?_)
      refine xputC 46 hH ⟨u52, _, rfl⟩ rfl (by decide) (by decide) rfl rfl (by decide) ⟨rfl, rfl⟩ (by omega) (by omega) (fun hp43 hH43 U43 => ?_)
      have s43 := U43.1
      have Y43 : hyC hp43 (n - 1) h sv := hyC_dep hY U43 (by omega) (by omega)
      refine xald 47 ⟨u52, _, rfl⟩ rfl rfl ?_
      refine xgetD 50 (15) hH43 ⟨u52, _, rfl⟩ rfl (by decide) (by decide) rfl rfl (by decide) ?_
      refine xald 51 ⟨u52, _, rfl⟩ rfl rfl ?_
      refine xgetC 54 hH43 ⟨u52, _, rfl⟩ rfl (by decide) (by decide) rfl rfl (by decide) (fun z51 h51 => ?_)
      refine xaald 55 (n - 1) (f (n - 1)) hH43 ⟨u52, _, rfl⟩ rfl (by decide) rfl (by omega) (by omega) ((U43.2 15 (n - 1) (by omega)).trans m3) ?_
      refine xald 56 ⟨u52, _, rfl⟩ rfl rfl ?_
      refine xald 57 ⟨u52, _, rfl⟩ rfl rfl ?_
      refine xcallC 60 (o := f (n - 1)) [.ref 3, .ref 13] [] hH43 ⟨u52, _, rfl⟩ rfl rfl (sn_lt m1) (sn_T m1) (by decide) rfl ⟨rfl, rfl, rfl, rfl⟩ rfl (k_gvb m1 (Y43.2.2.1 _ m1) (snOk_fr (y4 (n - 1) (by omega)) (fun c c1 c2 k => U43.2 c k (by omega))) hH43 (fun hp57 hH57 F57 B57 E57 => ⟨_, rfl, ?_⟩))
      refine xcst 61 (1) ⟨u52, _, rfl⟩ rfl (by decide) (fun z60 h60 => ?_)
      exact xretB ⟨u52, _, rfl⟩ rfl (by omega) (hR _ hp57 hH57 ((bFx_U U43 (by simp)).trans (F57.mono (by simp))) (Or.inr ⟨by omega, by omega, hyC_fr Y43 (fun c k c1 c2 => F57 c k (by simp; omega)), B57, E57⟩))
theorem k_sav {d n V : Nat} {h : Nat → sR} {sv : Option sR} {T : sT} {hp : amH} {R : xQ} (hH : bHk 84 bTT hp) (hY : hyC hp n h sv) (hB : bdOk hp 3 V T) (hL : lsN hp 3 T 225)
    (hR : ∀ hp1, bHk 84 bTT hp1 → hyF hp hp1 → hyC hp1 n h (some (V, T, rN hp 13)) → R (.inl none) hp1) : xK (d + 2) 53 [.ref 14, .ref 3, .ref 13] hp R := by
  obtain ⟨y1, y2, y3, ⟨f, hA, y4⟩, y5⟩ := id hY
  have m1 : sn 16 := by unfold sn; simp
  refine xin (M := am_m53) rfl rfl rfl ?_
  refine xald 1 ⟨u53, _, rfl⟩ rfl rfl ?_
  refine xgetD 4 (16) hH ⟨u53, _, rfl⟩ rfl (by decide) (by decide) rfl rfl (by decide) ?_
  refine xald 5 ⟨u53, _, rfl⟩ rfl rfl ?_
  refine xald 6 ⟨u53, _, rfl⟩ rfl rfl ?_
  refine xcallC 9 (o := 16) [.ref 3, .ref 13] [] hH ⟨u53, _, rfl⟩ rfl rfl (by decide) rfl (by decide) rfl ⟨rfl, rfl, rfl, rfl⟩ rfl (k_keep m1 (y3 _ m1) hH hB hL (fun hp6 hH6 F6 f6 s6 => ⟨_, rfl, ?_⟩))
  refine xald 10 ⟨u53, _, rfl⟩ rfl rfl ?_
  refine xcst 11 (1) ⟨u53, _, rfl⟩ rfl (by decide) (fun z10 h10 => ?_)
  refine xputC 14 hH6 ⟨u53, _, rfl⟩ rfl (by decide) (by decide) rfl rfl (by decide) (by rw [show z10 = 1 from Int32.toInt_inj.mp h10]; exact ⟨rfl, rfl⟩) (by omega) (by omega) (fun hp11 hH11 U11 => ?_)
  have s11 := U11.1
  refine xretV ⟨u53, _, rfl⟩ rfl (hR _ hH11 ((hyF_x F6 (fun c hc => by simp at hc; omega)).trans (hyF_U U11 (by decide))) ⟨((rU_ne U11 (by omega)).trans (bFx_n F6 (by simp))).trans y1, y2, fun s hs => ?_, ⟨f, ⟨fun k hk => ⟨(hA.1 k hk).1, (hA.1 k hk).2.1, (U11.2 15 k (by omega)).trans ((F6 15 k (by simp)).trans (hA.1 k hk).2.2)⟩, hA.2⟩, fun k hk => ?_⟩, ?_⟩)
  · have := sn_mod hs
    by_cases e : s = 16
    · subst e
      exact ⟨(U11.2 16 2 (by omega)).trans f6.1, (U11.2 16 3 (by omega)).trans f6.2⟩
    · exact ⟨(U11.2 s 2 (by omega)).trans ((F6 s 2 (by simp; omega)).trans (y3 s hs).1), (U11.2 s 3 (by omega)).trans ((F6 s 3 (by simp; omega)).trans (y3 s hs).2)⟩
  · obtain ⟨k1, k2, -⟩ := hA.1 k (by omega)
    have := sn_mod k1
    exact snOk_fr (y4 k hk) (fun c c1 c2 j => (U11.2 c j (by omega)).trans (F6 c j (by simp; omega)))
  · exact ⟨U11.1.trans h10, snOk_fr s6 (fun c c1 c2 j => U11.2 c j (by omega))⟩
theorem k_rsr {d n : Nat} {h : Nat → sR} {sv : Option sR} {hp : amH} {R : xQ} (hH : bHk 84 bTT hp) (hY : hyC hp n h sv)
    (hR : ∀ (z : Int32) hp1, bHk 84 bTT hp1 → bFx [3, 4, 6, 13, 14] hp hp1 → ((sv = none ∧ z.toInt = 0 ∧ hp1 = hp) ∨ (∃ q, sv = some q ∧ z.toInt = 1 ∧ hyC hp1 0 h sv ∧ bdOk hp1 3 q.1 q.2.1 ∧ ∀ i, i < 3 → rN hp1 13 i = q.2.2 i)) → R (.inl (some (.int z))) hp1) : xK (d + 4) 54 [.ref 14, .ref 3, .ref 13] hp R := by
  obtain ⟨y1, y2, y3, ⟨f, hA, y4⟩, y5⟩ := id hY
  have m1 : sn 16 := by unfold sn; simp
  refine xin (M := am_m54) rfl rfl rfl ?_
  refine xald 1 ⟨u54, _, rfl⟩ rfl rfl ?_
  refine xgetC 4 hH ⟨u54, _, rfl⟩ rfl (by decide) (by decide) rfl rfl (by decide) (fun z1 h1 => ?_)
  refine xif_ne 7 ⟨u54, _, rfl⟩ rfl (fun c4 => ?_) (fun c4 => ?_)
  · obtain ⟨q, rfl⟩ : ∃ q, sv = some q := by
      cases sv with
      | none => have y5 : rN hp 14 3 = 0 := y5; omega
      | some q => exact ⟨q, rfl⟩
    have k6 : snOk hp 16 (q.1, q.2.1, q.2.2) := y5.2
    refine xald 10 ⟨u54, _, rfl⟩ rfl rfl ?_
    refine xgetD 13 (16) hH ⟨u54, _, rfl⟩ rfl (by decide) (by decide) rfl rfl (by decide) ?_
    refine xald 14 ⟨u54, _, rfl⟩ rfl rfl ?_
    refine xald 15 ⟨u54, _, rfl⟩ rfl rfl ?_
    refine xcallC 18 (o := 16) [.ref 3, .ref 13] [] hH ⟨u54, _, rfl⟩ rfl rfl (by decide) rfl (by decide) rfl ⟨rfl, rfl, rfl, rfl⟩ rfl (k_gvb m1 (y3 16 m1) k6 hH (fun hp15 hH15 F15 B15 E15 => ⟨_, rfl, ?_⟩))
    have Y15 : hyC hp15 n h (some q) := hyC_fr hY (fun c k c1 c2 => F15 c k (by simp; omega))
    refine xald 19 ⟨u54, _, rfl⟩ rfl rfl ?_
    refine xcst 20 (0) ⟨u54, _, rfl⟩ rfl (by decide) (fun z19 h19 => ?_)
    refine xputC 23 hH15 ⟨u54, _, rfl⟩ rfl (by decide) (by decide) rfl rfl (by decide) ⟨rfl, rfl⟩ (by omega) (by omega) (fun hp20 hH20 U20 => ?_)
    have s20 := U20.1
    refine xcst 24 (1) ⟨u54, _, rfl⟩ rfl (by decide) (fun z23 h23 => ?_)
    exact xretB ⟨u54, _, rfl⟩ rfl (by omega) (hR _ hp20 hH20 ((F15.mono (by simp)).trans (bFx_U U20 (by simp))) (Or.inr ⟨q, rfl, h23, hyC_dep Y15 U20 (by omega) (Nat.zero_le _), bdOk_fr B15 (rU_ne U20 (by omega)) (fun i => rU_ne U20 (by omega)) (fun i => rU_ne U20 (by omega)), fun i hi => by rw [rU_ne U20 (by omega)]; exact E15 i hi⟩))
  · refine xcst 8 (0) ⟨u54, _, rfl⟩ rfl (by decide) (fun z7 h7 => ?_)
    exact xretB ⟨u54, _, rfl⟩ rfl (by omega) (hR _ hp hH bFx.refl (Or.inl ⟨by cases sv with | none => rfl | some q => exact absurd y5.1 (by omega), h7, rfl⟩))
end
/-! ##### 19.m.039.31f ##### -/
section
/-! ===== the reference keeps what was ===== -/
theorem rowOk_eq {r r1 : Nat → Int} {q : sR} (h : rowOk r q) (e : ∀ i, i < 229 → r1 i = r i) : rowOk r1 q := by
  obtain ⟨h1, h2, h3, h4, h5⟩ := h
  exact ⟨(e 0 (by decide)).trans h1, h2, fun u v hu hv => (e _ (by omega)).trans (h3 u v hu hv), h4, fun i hi => (e _ (by omega)).trans (h5 i hi)⟩
def hyV (hp : amH) (sv : Option sR) : Prop := match sv with
  | none => rN hp 66 6 = 0
  | some q => rN hp 66 6 = 1 ∧ rowOk (rN hp 70) q
def hyR (hp : amH) (n : Nat) (h : Nat → sR) (sv : Option sR) : Prop := rN hp 66 5 = (n : Int) ∧ n ≤ 10 ∧ (∀ k, k < n → rowOk (fun i => rN hp 71 (229 * k + i)) (h k)) ∧ hyV hp sv
theorem hyV_fr {hp hp1 : amH} {sv : Option sR} (h : hyV hp sv) (e : rN hp1 66 6 = rN hp 66 6) (F : ∀ i, i < 229 → rN hp1 70 i = rN hp 70 i) : hyV hp1 sv := by
  cases sv with
  | none => exact e.trans h
  | some q => exact ⟨e.trans h.1, rowOk_eq h.2 F⟩
theorem hyR_fr {hp hp1 : amH} {n : Nat} {h : Nat → sR} {sv : Option sR} (hY : hyR hp n h sv) (e5 : rN hp1 66 5 = rN hp 66 5) (e6 : rN hp1 66 6 = rN hp 66 6) (F : ∀ i, rN hp1 70 i = rN hp 70 i) (F1 : ∀ i, rN hp1 71 i = rN hp 71 i) : hyR hp1 n h sv :=
  ⟨e5.trans hY.1, hY.2.1, fun k hk => rowOk_eq (hY.2.2.1 k hk) (fun i _ => F1 _), hyV_fr hY.2.2.2 e6 (fun i _ => F i)⟩
theorem rowOk_V {r : Nat → Int} {q : sR} (h : rowOk r q) : Vf r := by
  obtain ⟨h1, h2, h3, h4, h5⟩ := h
  have a := h2.1
  have b := h2.2.1
  refine ⟨by omega, by omega, fun u v hu hv => ?_⟩
  rcases h2.2.2 u v with g | ⟨c, g1, g2, g3, g4, g5, g6, g7, g8, g9⟩
  · exact Or.inl ((h3 u v hu hv).trans g)
  · exact Or.inr ⟨c, (h3 u v hu hv).trans g1, by omega, by omega, by omega, g5, g6, g7, (h3 v u hv hu).trans g8, (h3 u c hu (by omega)).trans g9⟩
theorem rowOk_rd {hp : amH} {q : sR} (h : rowOk (rN hp 67) q) : rdOk hp q.1 q.2.1 := ⟨h.1, h.2.1, h.2.2.1, h.2.2.2.1⟩
theorem rd_rowOk {hp : amH} {V : Nat} {T : sT} {ty : Nat → Int} (h : rdOk hp V T) (e : ∀ i, i < 3 → rN hp 67 (i + 1) = ty i) : rowOk (rN hp 67) (V, T, ty) := ⟨h.1, h.2.1, h.2.2.1, h.2.2.2, e⟩
theorem k_rmem {d n : Nat} {h : Nat → sR} {sv : Option sR} {q : sR} {hp : amH} {R : xQ} (hH : bHk 84 bTT hp) (hP : P0 hp) (hC : rowOk (rN hp 67) q) (hY : hyR hp n h sv) (hR : ∀ hp1, bHk 84 bTT hp1 → P0 hp1 → bFr wRem hp hp1 → hyR hp1 (pM n + 1) (pH n h q) sv → R (.inl none) hp1) : xK (d + 1) 200 [.ref 66] hp R := by
  refine xin (M := am_m200) rfl rfl rfl ?_
  have j37 : ∀ hp1, bHk 84 bTT hp1 → P0 hp1 → bFr wRem hp hp1 → rN hp1 66 5 = ((pM n : Nat) : Int) → (∀ k, k < pM n → rowOk (fun i => rN hp1 71 (229 * k + i)) (if n = 10 then h (k + 1) else h k)) → xV (d + 1) am_m200 37 [some (.ref 66)] [] hp1 R := by
    intro hp1 hH1 hP1 hF1 h9 hK
    have pm : pM n ≤ 9 := by unfold pM; have := hY.2.1; split <;> omega
    have hb := rb_fld hH1 (f := 5) (lo := 2147483648) (hi := 2147483658) rfl
    obtain ⟨m, hm⟩ : ∃ m : Nat, rN hp1 66 5 = (m : Int) := ⟨(rN hp1 66 5).toNat, by omega⟩
    refine xald 38 ⟨u200, _, rfl⟩ rfl rfl ?_
    refine xgetR 41 67 hH1 ⟨u200, _, rfl⟩ rfl rfl ?_
    refine xcst 42 (0) ⟨u200, _, rfl⟩ rfl (by decide) (fun z41 h41 => ?_)
    refine xald 43 ⟨u200, _, rfl⟩ rfl rfl ?_
    refine xgetR 46 71 hH1 ⟨u200, _, rfl⟩ rfl rfl ?_
    refine xsip 49 (229) ⟨u200, _, rfl⟩ rfl (by decide) (fun z46 h46 => ?_)
    refine xald 50 ⟨u200, _, rfl⟩ rfl rfl ?_
    refine xgetI 53 hH1 ⟨u200, _, rfl⟩ rfl rfl (fun z50 h50 => ?_)
    refine xmul 54 (229 * Int32.toInt z50) ⟨u200, _, rfl⟩ rfl (by rw [h46]) (by omega) (by omega) (fun z53 h53 => ?_)
    refine xsip 57 (229) ⟨u200, _, rfl⟩ rfl (by decide) (fun z54 h54 => ?_)
    refine xcallS 60 [.ref 67, .int _, .ref 71, .int _, .int _] [] hH1 ⟨u200, _, rfl⟩ rfl rfl rfl rfl rfl (k_copy 0 (229 * m) 229 hH1 (by decide) (by decide) (by decide) rfl rfl (by omega) (by omega) (by omega) (by omega) (by omega) (by decide) (fun hp2 hH2 F2 E2 => ⟨_, rfl, ?_⟩))
    refine xald 61 ⟨u200, _, rfl⟩ rfl rfl ?_
    refine xdup 62 ⟨u200, _, rfl⟩ rfl rfl ?_
    have e5 : rN hp2 66 5 = rN hp1 66 5 := r_fr F2 (bIn_ne (by decide))
    refine xgetI 65 hH2 ⟨u200, _, rfl⟩ rfl rfl (fun z62 h62 => ?_)
    refine xcst 66 (1) ⟨u200, _, rfl⟩ rfl (by decide) (fun z65 h65 => ?_)
    refine xadd 67 (m + 1) ⟨u200, _, rfl⟩ rfl (by omega) (by omega) (by omega) (fun z66 h66 => ?_)
    refine xputI 70 hH2 ⟨u200, _, rfl⟩ rfl rfl ⟨rfl, rfl⟩ (by omega) (by omega) (fun hp3 hH3 U3 => ?_)
    have e : ∀ c i, ¬ c = 71 → ¬ (c = 66 ∧ i = 5) → rN hp3 c i = rN hp1 c i := fun c i h1 h2 => (rU_ne U3 h2).trans (r_fr F2 (bIn_ne h1))
    refine xretV ⟨u200, _, rfl⟩ rfl (hR hp3 hH3 ?_ (hF1.trans ((bFr_in F2 (by simp [wRem])).trans (rU_fr U3 rfl))) ?_)
    · refine ⟨Vf_eq (fun i _ => e 67 i (by decide) (by omega)) hP1.1, fun z => Vf_eq (fun i _ => e 70 i (by decide) (by omega)) (hP1.2.1 (by rw [← e 66 6 (by decide) (by omega)]; exact z)), fun k hk hk2 => ?_, fun z => Vf_eq (fun i _ => e 69 i (by decide) (by omega)) (hP1.2.2.2 (by rw [← e 69 0 (by decide) (by omega)]; exact z))⟩
      rw [U3.1] at hk
      by_cases hkm : k = m
      · subst hkm
        refine Vf_eq (r := rN hp1 67) (fun i hi => ?_) hP1.1
        rw [rU_ne U3 (by omega), E2 _ (by omega), if_pos (by omega), show 0 + (229 * k + i - 229 * k) = i by omega]
      · refine Vf_eq (r := fun i => rN hp1 71 (229 * k + i)) (fun i hi => ?_) (hP1.2.2.1 k (by omega) hk2)
        rw [rU_ne U3 (by omega), E2 _ (by omega), if_neg (by omega)]
    · have em : m = pM n := by omega
      refine ⟨by rw [U3.1]; omega, by omega, fun k hk => ?_, hyV_fr hY.2.2.2 ((e 66 6 (by decide) (by omega)).trans (r_fr hF1 rfl)) (fun i _ => (e 70 i (by decide) (by omega)).trans (r_fr hF1 rfl))⟩
      unfold pH
      by_cases hkm : k = pM n
      · rw [if_pos hkm]
        refine rowOk_eq (r := rN hp 67) hC (fun i hi => ?_)
        rw [rU_ne U3 (by omega), E2 _ (by omega), if_pos (by omega), show 0 + (229 * k + i - 229 * m) = i by omega]
        exact r_fr hF1 rfl
      · rw [if_neg hkm]
        refine rowOk_eq (hK k (by omega)) (fun i hi => ?_)
        rw [rU_ne U3 (by omega), E2 _ (by omega), if_neg (by omega)]
  refine xald 1 ⟨u200, _, rfl⟩ rfl rfl ?_
  refine xgetI 4 hH ⟨u200, _, rfl⟩ rfl rfl (fun z1 h1 => ?_)
  have hb := rb_fld hH (f := 5) (lo := 2147483648) (hi := 2147483658) rfl
  refine xbip 6 (10) ⟨u200, _, rfl⟩ rfl (by decide) (fun z4 h4 => ?_)
  refine xcmp_ne 9 ⟨u200, _, rfl⟩ rfl (fun c6 => ?_) (fun c6 => ?_)
  · have en : ¬ n = 10 := by have := hY.1; omega
    have pm : pM n = n := by unfold pM; rw [if_neg en]
    exact j37 hp hH hP (bFr.refl _ _) (by rw [pm]; exact hY.1) (fun k hk => by rw [if_neg en]; exact hY.2.2.1 k (by omega))
  · refine xald 10 ⟨u200, _, rfl⟩ rfl rfl ?_
    refine xgetR 13 71 hH ⟨u200, _, rfl⟩ rfl rfl ?_
    refine xsip 16 (229) ⟨u200, _, rfl⟩ rfl (by decide) (fun z13 h13 => ?_)
    refine xald 17 ⟨u200, _, rfl⟩ rfl rfl ?_
    refine xgetR 20 71 hH ⟨u200, _, rfl⟩ rfl rfl ?_
    refine xcst 21 (0) ⟨u200, _, rfl⟩ rfl (by decide) (fun z20 h20 => ?_)
    refine xsip 24 (2061) ⟨u200, _, rfl⟩ rfl (by decide) (fun z21 h21 => ?_)
    refine xcallS 27 [.ref 71, .int _, .ref 71, .int _, .int _] [] hH ⟨u200, _, rfl⟩ rfl rfl rfl rfl rfl (k_shift hH h13 h20 h21 (fun hp2 hH2 F2 E2 => ⟨_, rfl, ?_⟩))
    refine xald 28 ⟨u200, _, rfl⟩ rfl rfl ?_
    refine xdup 29 ⟨u200, _, rfl⟩ rfl rfl ?_
    have e5 : rN hp2 66 5 = rN hp 66 5 := r_fr F2 (bIn_ne (by decide))
    refine xgetI 32 hH2 ⟨u200, _, rfl⟩ rfl rfl (fun z29 h29 => ?_)
    refine xcst 33 (1) ⟨u200, _, rfl⟩ rfl (by decide) (fun z32 h32 => ?_)
    refine xsub 34 9 ⟨u200, _, rfl⟩ rfl (by omega) (by omega) (by omega) (fun z33 h33 => ?_)
    refine xputI 37 hH2 ⟨u200, _, rfl⟩ rfl rfl ⟨rfl, rfl⟩ (by omega) (by omega) (fun hp3 hH3 U3 => ?_)
    have e : ∀ c i, ¬ c = 71 → ¬ (c = 66 ∧ i = 5) → rN hp3 c i = rN hp c i := fun c i h1 h2 => (rU_ne U3 h2).trans (r_fr F2 (bIn_ne h1))
    have en : n = 10 := by have := hY.1; omega
    have pm : pM n = 9 := by unfold pM; rw [if_pos en]
    refine j37 hp3 hH3 ?_ ((bFr_in F2 (by simp [wRem])).trans (rU_fr U3 rfl)) (by rw [U3.1, pm]; exact h33) (fun k hk => by
      rw [if_pos en]
      refine rowOk_eq (hY.2.2.1 (k + 1) (by omega)) (fun i hi => ?_)
      rw [rU_ne U3 (by omega), E2 _ (by omega), show 229 + (229 * k + i) = 229 * (k + 1) + i by omega])
    refine ⟨Vf_eq (fun i _ => e 67 i (by decide) (by omega)) hP.1, fun z => Vf_eq (fun i _ => e 70 i (by decide) (by omega)) (hP.2.1 (by rw [← e 66 6 (by decide) (by omega)]; exact z)), fun k hk hk2 => ?_, fun z => Vf_eq (fun i _ => e 69 i (by decide) (by omega)) (hP.2.2.2 (by rw [← e 69 0 (by decide) (by omega)]; exact z))⟩
    rw [U3.1, h33] at hk
    refine Vf_eq (r := fun i => rN hp 71 (229 * (k + 1) + i)) (fun i hi => ?_) (hP.2.2.1 (k + 1) (by omega) (by omega))
    rw [rU_ne U3 (by omega), E2 _ (by omega), show 229 + (229 * k + i) = 229 * (k + 1) + i by omega]
theorem P0_dep {hp hp1 : amH} {n : Nat} {m : Int} (U : rU hp hp1 66 5 m) (hn : rN hp 66 5 = (n : Int)) (hm : m ≤ (n : Int)) (hP : P0 hp) : P0 hp1 :=
  ⟨Vf_eq (fun i _ => rU_ne U (by omega)) hP.1, fun z => Vf_eq (fun i _ => rU_ne U (by omega)) (hP.2.1 (by rw [← rU_ne U (c1 := 66) (i1 := 6) (by omega)]; exact z)), fun k hk hk2 => Vf_eq (fun i _ => rU_ne U (by omega)) (hP.2.2.1 k (by rw [U.1] at hk; omega) hk2), fun z => Vf_eq (fun i _ => rU_ne U (by omega)) (hP.2.2.2 (by rw [← rU_ne U (c1 := 69) (i1 := 0) (by omega)]; exact z))⟩
theorem k_339 {d n : Nat} {h : Nat → sR} {sv : Option sR} {hp : amH} {R : xQ} (hH : bHk 84 bTT hp) (hP : P0 hp) (hY : hyR hp n h sv)
    (hR : ∀ (z : Int32) hp1, bHk 84 bTT hp1 → P0 hp1 → bFr wM hp hp1 → ((n = 0 ∧ z.toInt = -1 ∧ bFr [(66, 7)] hp hp1) ∨ (0 < n ∧ z.toInt = ((n - 1 : Nat) : Int) ∧ hyR hp1 (n - 1) h sv ∧ rowOk (rN hp1 67) (h (n - 1)))) → R (.inl (some (.int z))) hp1) : xK (d + 1) 339 [.ref 66] hp R := by
  obtain ⟨y1, y2, y3, y4⟩ := id hY
  have b5 := rb_fld hH (f := 5) (lo := 2147483648) (hi := 2147483658) rfl
  refine xin (M := am_m339) rfl rfl rfl ?_
  refine xald 1 ⟨u339, _, rfl⟩ rfl rfl ?_
  refine xcst 2 (0) ⟨u339, _, rfl⟩ rfl (by decide) (fun z1 h1 => ?_)
  refine xputI 5 hH ⟨u339, _, rfl⟩ rfl rfl ⟨rfl, rfl⟩ (by omega) (by omega) (fun hp2 hH2 U2 => ?_)
  have s2 := U2.1
  have n2_66_5 : rN hp2 (66) 5 = rN hp (66) 5 := rU_ne U2 (by omega)
  refine xald 6 ⟨u339, _, rfl⟩ rfl rfl ?_
  refine xgetI 9 hH2 ⟨u339, _, rfl⟩ rfl rfl (fun z6 h6 => ?_)
  refine xif_ne 12 ⟨u339, _, rfl⟩ rfl (fun c9 => ?_) (fun c9 => ?_)
  · refine xald 15 ⟨u339, _, rfl⟩ rfl rfl ?_
    refine xdup 16 ⟨u339, _, rfl⟩ rfl rfl ?_
    refine xgetI 19 hH2 ⟨u339, _, rfl⟩ rfl rfl (fun z16 h16 => ?_)
    refine xcst 20 (1) ⟨u339, _, rfl⟩ rfl (by decide) (fun z19 h19 => ?_)
    refine xsub 21 _ ⟨u339, _, rfl⟩ rfl rfl (by omega) (by omega) (fun z20 h20 => ?_)
    refine xputI 24 hH2 ⟨u339, _, rfl⟩ rfl rfl ⟨rfl, rfl⟩ (by omega) (by omega) (fun hp21 hH21 U21 => ?_)
    have s21 := U21.1
    refine xald 25 ⟨u339, _, rfl⟩ rfl rfl ?_
    refine xgetR 28 71 hH21 ⟨u339, _, rfl⟩ rfl rfl ?_
    refine xsip 31 (229) ⟨u339, _, rfl⟩ rfl (by decide) (fun z28 h28 => ?_)
    refine xald 32 ⟨u339, _, rfl⟩ rfl rfl ?_
    refine xgetI 35 hH21 ⟨u339, _, rfl⟩ rfl rfl (fun z32 h32 => ?_)
    refine xmul 36 (229 * Int32.toInt z32) ⟨u339, _, rfl⟩ rfl (by rw [h28]) (by omega) (by omega) (fun z35 h35 => ?_)
    refine xald 37 ⟨u339, _, rfl⟩ rfl rfl ?_
    refine xgetR 40 67 hH21 ⟨u339, _, rfl⟩ rfl rfl ?_
    refine xcst 41 (0) ⟨u339, _, rfl⟩ rfl (by decide) (fun z40 h40 => ?_)
    refine xsip 44 (229) ⟨u339, _, rfl⟩ rfl (by decide) (fun z41 h41 => ?_)
    refine xcallS 47 [.ref 71, .int _, .ref 67, .int _, .int _] [] hH21 ⟨u339, _, rfl⟩ rfl rfl rfl rfl rfl (k_copy (229 * (n - 1)) 0 229 hH21 (by decide) (by decide) (by decide) rfl rfl (by omega) (by omega) (by omega) (by omega) (by omega) (by decide) (fun hp44 hH44 F44 E44 => ⟨_, rfl, ?_⟩))
    have r67 : rowOk (rN hp44 67) (h (n - 1)) := rowOk_eq (y3 (n - 1) (by omega)) (fun i hi => by
      rw [E44 i hi, if_pos (by omega), Nat.sub_zero, rU_ne U21 (by omega), rU_ne U2 (by omega)])
    have e5 : rN hp44 66 5 = rN hp21 66 5 := r_fr F44 rfl
    have b21 : bFr [(66, 5), (66, 7)] hp hp21 := (rU_fr U2 (by decide)).trans (rU_fr U21 (by decide))
    have hP44 : P0 hp44 := P0_67 F44 (P0_dep (n := n) U21 (by omega) (by omega) (P0_W (W := [(66, 7)]) (by decide) (rU_fr U2 rfl) hP)) (rowOk_V r67)
    refine xald 48 ⟨u339, _, rfl⟩ rfl rfl ?_
    refine xgetI 51 hH44 ⟨u339, _, rfl⟩ rfl rfl (fun z48 h48 => ?_)
    exact xret ⟨u339, _, rfl⟩ rfl (hR _ hp44 hH44 hP44 ((bFr_sub b21 (by decide)).trans (bFr_sub F44 (by decide))) (Or.inr ⟨by omega, by omega, ⟨by rw [e5, U21.1]; omega, by omega, fun k hk => rowOk_eq (y3 k (by omega)) (fun i hi => by
      rw [show rN hp44 71 (229 * k + i) = rN hp21 71 (229 * k + i) from r_fr F44 rfl]
      exact r_fr b21 rfl), hyV_fr y4 ((r_fr F44 rfl).trans (r_fr b21 rfl)) (fun i _ => (r_fr F44 rfl).trans (r_fr b21 rfl))⟩, r67⟩))
  · refine xcst 13 (-1) ⟨u339, _, rfl⟩ rfl (by decide) (fun z12 h12 => ?_)
    exact xret ⟨u339, _, rfl⟩ rfl (hR _ hp2 hH2 (P0_W (W := [(66, 7)]) (by decide) (rU_fr U2 rfl) hP) (rU_fr U2 (by decide)) (Or.inl ⟨by omega, h12, rU_fr U2 rfl⟩))
end
/-! ##### 19.m.040.31g ##### -/
section
/-! ===== the reference: triples put and taken, states saved and restored ===== -/
theorem k_ptR {d V x y z : Nat} {hp : amH} {R : xQ} {T : sT} {ty : Nat → Int} {a b c : Int32} (hH : bHk 84 bTT hp) (hP : P0 hp) (hC : rowOk (rN hp 67) (V, T, ty)) (ha : a.toInt = (x : Int)) (hb : b.toInt = (y : Int)) (hc : c.toInt = (z : Int)) (hx : x < V) (hy : y < V) (hz : z < V) (hxy : ¬ x = y) (hyz : ¬ y = z) (hxz : ¬ x = z) (hf : sFree T x y z)
    (hR : ∀ hp1, bHk 84 bTT hp1 → P0 hp1 → bFr [(67, 999)] hp hp1 → rowOk (rN hp1 67) (V, sPut T x y z, ty) → R (.inl none) hp1) : xK (d + 1) 206 [.ref 66, .int a, .int b, .int c] hp R :=
  k_rput hH hP (rowOk_rd hC) ha hb hc hx hy hz hxy hyz hxz hf (fun hp1 g1 g2 g3 g4 g5 => hR hp1 g1 g2 g3 (rd_rowOk g5 (fun i hi => (g4 (i + 1) (by omega)).trans (hC.2.2.2.2 i hi))))
theorem k_tkR {d V x y z : Nat} {hp : amH} {R : xQ} {T : sT} {ty : Nat → Int} {a b c : Int32} (hH : bHk 84 bTT hp) (hP : P0 hp) (hC : rowOk (rN hp 67) (V, T, ty)) (ha : a.toInt = (x : Int)) (hb : b.toInt = (y : Int)) (hc : c.toInt = (z : Int)) (e : T x y = (z : Int))
    (hR : ∀ hp1, bHk 84 bTT hp1 → P0 hp1 → bFr [(67, 999)] hp hp1 → rowOk (rN hp1 67) (V, sTake T x y z, ty) → R (.inl none) hp1) : xK (d + 1) 207 [.ref 66, .int a, .int b, .int c] hp R := by
  obtain ⟨c1, c2, c3, c4, c5⟩ := id hC
  have hV := c2.2.1
  obtain ⟨k, ek, k1, k2, k3, k4, k5, k6, -⟩ := sOk_at c2 e (by omega)
  have : k = z := by omega
  subst this
  have k1 : x < V := k1
  have k2 : y < V := k2
  have k3 : k < V := k3
  have hV : V ≤ 15 := hV
  refine k_takes hH ha hb hc (by omega) (by omega) (by omega) k4 k6 k5 (fun hp1 g1 g2 g3 g4 => ?_)
  have hC1 : rowOk (rN hp1 67) (V, sTake T x y k, ty) := ⟨(g3 0 (by omega)).trans c1, sOk_take c2 e, fun u v hu hv => by
    have g := g4 u v hu hv
    have g0 : tT hp1 u v = sTake T x y k u v := by
      rw [g]
      unfold sTake
      by_cases hp : sPr x y k u v
      · rw [if_pos hp, if_pos hp]
      · rw [if_neg hp, if_neg hp]
        exact c3 u v hu hv
    exact g0, fun u v h => by
    show sTake T x y k u v = -1
    unfold sTake
    split
    · rfl
    · exact c4 u v h, fun i hi => (g3 (i + 1) (by omega)).trans (c5 i hi)⟩
  exact hR hp1 g1 (P0_67 g2 hP (rowOk_V hC1)) g2 hC1
theorem k_failsE {d : Nat} {hp : amH} {R : xQ} {v e : Int32} (hH : bHk 84 bTT hp) (hv : v.toInt = 0 ∨ v.toInt = 1) (hR : ∀ hp1, bHk 84 bTT hp1 → ((v.toInt = 0 ∧ hp1 = hp) ∨ (v.toInt = 1 ∧ rU hp hp1 66 7 e.toInt)) → R (.inl (some (.int v))) hp1) : xK d 197 [.ref 66, .int v, .int e] hp R := by
  have em := aMin e
  have ex := aMax e
  refine xin (M := am_m197) rfl rfl rfl ?_
  refine xild 1 ⟨u197, _, rfl⟩ rfl rfl ?_
  refine xif_eq 4 ⟨u197, _, rfl⟩ rfl (fun c1 => ?_) (fun c1 => ?_)
  · refine xild 10 ⟨u197, _, rfl⟩ rfl rfl ?_
    exact xretB ⟨u197, _, rfl⟩ rfl (by omega) (hR _ hH (Or.inl ⟨by omega, rfl⟩))
  · refine xald 5 ⟨u197, _, rfl⟩ rfl rfl ?_
    refine xild 6 ⟨u197, _, rfl⟩ rfl rfl ?_
    refine xputI 9 hH ⟨u197, _, rfl⟩ rfl rfl ⟨rfl, rfl⟩ (by omega) (by omega) (fun hp6 hH6 U6 => ?_)
    have s6 := U6.1
    refine xild 10 ⟨u197, _, rfl⟩ rfl rfl ?_
    exact xretB ⟨u197, _, rfl⟩ rfl (by omega) (hR _ hH6 (Or.inr ⟨by omega, U6⟩))
theorem k_340E {d n : Nat} {h : Nat → sR} {sv : Option sR} {q : sR} {hp : amH} {R : xQ} (hH : bHk 84 bTT hp) (hP : P0 hp) (hC : rowOk (rN hp 67) q) (hY : hyR hp n h sv)
    (hR : ∀ (z : Int32) hp1, bHk 84 bTT hp1 → P0 hp1 → bFr wM hp hp1 → rowOk (rN hp1 67) q → hyR hp1 n h (some q) → z.toInt = (((trL q.2.1 225).length : Nat) : Int) → R (.inl (some (.int z))) hp1) : xK (d + 3) 340 [.ref 66] hp R := by
  obtain ⟨y1, y2, y3, y4⟩ := id hY
  refine xin (M := am_m340) rfl rfl rfl ?_
  refine xald 1 ⟨u340, _, rfl⟩ rfl rfl ?_
  refine xcst 2 (0) ⟨u340, _, rfl⟩ rfl (by decide) (fun z1 h1 => ?_)
  refine xputI 5 hH ⟨u340, _, rfl⟩ rfl rfl ⟨rfl, rfl⟩ (by omega) (by omega) (fun hp2 hH2 U2 => ?_)
  have s2 := U2.1
  refine xald 6 ⟨u340, _, rfl⟩ rfl rfl ?_
  refine xgetR 9 67 hH2 ⟨u340, _, rfl⟩ rfl rfl ?_
  refine xcst 10 (0) ⟨u340, _, rfl⟩ rfl (by decide) (fun z9 h9 => ?_)
  refine xald 11 ⟨u340, _, rfl⟩ rfl rfl ?_
  refine xgetR 14 70 hH2 ⟨u340, _, rfl⟩ rfl rfl ?_
  refine xcst 15 (0) ⟨u340, _, rfl⟩ rfl (by decide) (fun z14 h14 => ?_)
  refine xsip 18 (229) ⟨u340, _, rfl⟩ rfl (by decide) (fun z15 h15 => ?_)
  refine xcallS 21 [.ref 67, .int _, .ref 70, .int _, .int _] [] hH2 ⟨u340, _, rfl⟩ rfl rfl rfl rfl rfl (k_copy 0 0 229 hH2 (by decide) (by decide) (by decide) rfl rfl (by omega) (by omega) (by omega) (by omega) (by omega) (by decide) (fun hp18 hH18 F18 E18 => ⟨_, rfl, ?_⟩))
  have r70 : rowOk (rN hp18 70) q := rowOk_eq hC (fun i hi => by
    rw [E18 i hi, if_pos (by omega), Nat.sub_zero, Nat.zero_add, rU_ne U2 (by omega)])
  have C18 : rowOk (rN hp18 67) q := rowOk_eq hC (fun i hi => (r_fr F18 rfl).trans (rU_ne U2 (by omega)))
  have P18 : P0 hp18 := P0_no (P0_W (W := [(66, 7)]) (by decide) (rU_fr U2 rfl) hP) F18 (fun z => absurd z (by decide)) (fun z => absurd z (by decide)) (fun _ => rowOk_V r70) (by decide) (by decide)
  refine xald 22 ⟨u340, _, rfl⟩ rfl rfl ?_
  refine xcst 23 (1) ⟨u340, _, rfl⟩ rfl (by decide) (fun z22 h22 => ?_)
  refine xputI 26 hH18 ⟨u340, _, rfl⟩ rfl rfl (by rw [show z22 = 1 from Int32.toInt_inj.mp h22]; exact ⟨rfl, rfl⟩) (by omega) (by omega) (fun hp23 hH23 U23 => ?_)
  have s23 := U23.1
  have C23 : rowOk (rN hp23 67) q := rowOk_eq C18 (fun i hi => rU_ne U23 (by omega))
  have r70b : rowOk (rN hp23 70) q := rowOk_eq r70 (fun i hi => rU_ne U23 (by omega))
  have P23 : P0 hp23 := ⟨rowOk_V C23, fun _ => rowOk_V r70b, fun k hk hk2 => Vf_eq (fun i _ => rU_ne U23 (by omega)) (P18.2.2.1 k (by rw [← rU_ne U23 (c1 := 66) (i1 := 5) (by omega)]; exact hk) hk2), fun z => Vf_eq (fun i _ => rU_ne U23 (by omega)) (P18.2.2.2 (by rw [← rU_ne U23 (c1 := 69) (i1 := 0) (by omega)]; exact z))⟩
  have Y23 : hyR hp23 n h (some q) := ⟨((rU_ne U23 (by omega)).trans ((r_fr F18 rfl).trans (rU_ne U2 (by omega)))).trans y1, y2, fun k hk => rowOk_eq (y3 k hk) (fun i _ => (rU_ne U23 (by omega)).trans ((r_fr F18 rfl).trans (rU_ne U2 (by omega)))), U23.1.trans h22, r70b⟩
  refine xald 27 ⟨u340, _, rfl⟩ rfl rfl ?_
  refine xcall 30 [.ref 66] [] hH23 ⟨u340, _, rfl⟩ rfl rfl rfl rfl rfl (k_rtm hH23 (V := q.1) (T := q.2.1) (rowOk_rd C23) (fun z27 hp27 hH27 F27 B27 L27 e27 => ⟨_, rfl, ?_⟩))
  have hP27 : P0 hp27 := P0_W (W := bLT) (by decide) F27 P23
  exact xret ⟨u340, _, rfl⟩ rfl (hR _ hp27 hH27 hP27 ((((rU_fr U2 (by decide)).trans (bFr_sub F18 (by decide))).trans (rU_fr U23 (by decide))).trans (bFr_sub F27 (by decide))) (rowOk_eq C23 (fun i _ => r_fr F27 rfl)) (hyR_fr Y23 (r_fr F27 rfl) (r_fr F27 rfl) (fun i => r_fr F27 rfl) (fun i => r_fr F27 rfl)) e27)
theorem k_341E {d n : Nat} {h : Nat → sR} {sv : Option sR} {q0 : sR} {hp : amH} {R : xQ} (hH : bHk 84 bTT hp) (hP : P0 hp) (hC : rowOk (rN hp 67) q0) (hY : hyR hp n h sv)
    (hR : ∀ (z : Int32) hp1, bHk 84 bTT hp1 → P0 hp1 → bFr wM hp hp1 → ((sv = none ∧ rN hp1 66 7 = 1 ∧ rowOk (rN hp1 67) q0 ∧ hyR hp1 n h none) ∨ (∃ q, sv = some q ∧ rN hp1 66 7 = 0 ∧ rowOk (rN hp1 67) q ∧ hyR hp1 0 h (some q) ∧ z.toInt = (((trL q.2.1 225).length : Nat) : Int))) → R (.inl (some (.int z))) hp1) : xK (d + 3) 341 [.ref 66] hp R := by
  obtain ⟨y1, y2, y3, y4⟩ := id hY
  have b6 := rb_fld hH (f := 6) (lo := 2147483648) (hi := 2147483649) rfl
  refine xin (M := am_m341) rfl rfl rfl ?_
  refine xald 1 ⟨u341, _, rfl⟩ rfl rfl ?_
  refine xcst 2 (0) ⟨u341, _, rfl⟩ rfl (by decide) (fun z1 h1 => ?_)
  refine xputI 5 hH ⟨u341, _, rfl⟩ rfl rfl ⟨rfl, rfl⟩ (by omega) (by omega) (fun hp2 hH2 U2 => ?_)
  have s2 := U2.1
  have n2_66_6 : rN hp2 (66) 6 = rN hp (66) 6 := rU_ne U2 (by omega)
  refine xald 6 ⟨u341, _, rfl⟩ rfl rfl ?_
  refine xald 7 ⟨u341, _, rfl⟩ rfl rfl ?_
  refine xgetI 10 hH2 ⟨u341, _, rfl⟩ rfl rfl (fun z7 h7 => ?_)
  refine xif_ne 13 ⟨u341, _, rfl⟩ rfl (fun c10 => ?_) (fun c10 => ?_)
  · refine xcst 18 (0) ⟨u341, _, rfl⟩ rfl (by decide) (fun z17 h17 => ?_)
    refine xcst 19 (1) ⟨u341, _, rfl⟩ rfl (by decide) (fun z18 h18 => ?_)
    refine xcall 22 [.ref 66, .int _, .int _] [] hH2 ⟨u341, _, rfl⟩ rfl rfl rfl rfl rfl (k_failsE hH2 (by omega) (fun hp19 hH19 V19 => ⟨_, rfl, ?_⟩))
    refine xif_eq 25 ⟨u341, _, rfl⟩ rfl (fun c22 => ?_) (fun c22 => ?_)
    · obtain ⟨q, rfl⟩ : ∃ q, sv = some q := by
        cases sv with
        | none => have y4 : rN hp 66 6 = 0 := y4; omega
        | some q => exact ⟨q, rfl⟩
      have y4 : rN hp 66 6 = 1 ∧ rowOk (rN hp 70) q := y4
      have e19 : hp19 = hp2 := by
        rcases V19 with ⟨a, e⟩ | ⟨a, -⟩
        · exact e
        · omega
      subst e19
      refine xald 28 ⟨u341, _, rfl⟩ rfl rfl ?_
      refine xgetR 31 70 hH19 ⟨u341, _, rfl⟩ rfl rfl ?_
      refine xcst 32 (0) ⟨u341, _, rfl⟩ rfl (by decide) (fun z31 h31 => ?_)
      refine xald 33 ⟨u341, _, rfl⟩ rfl rfl ?_
      refine xgetR 36 67 hH19 ⟨u341, _, rfl⟩ rfl rfl ?_
      refine xcst 37 (0) ⟨u341, _, rfl⟩ rfl (by decide) (fun z36 h36 => ?_)
      refine xsip 40 (229) ⟨u341, _, rfl⟩ rfl (by decide) (fun z37 h37 => ?_)
      refine xcallS 43 [.ref 70, .int _, .ref 67, .int _, .int _] [] hH19 ⟨u341, _, rfl⟩ rfl rfl rfl rfl rfl (k_copy 0 0 229 hH19 (by decide) (by decide) (by decide) rfl rfl (by omega) (by omega) (by omega) (by omega) (by omega) (by decide) (fun hp40 hH40 F40 E40 => ⟨_, rfl, ?_⟩))
      have C40 : rowOk (rN hp40 67) q := rowOk_eq y4.2 (fun i hi => by rw [E40 i hi, if_pos (by omega), Nat.sub_zero, Nat.zero_add, rU_ne U2 (by omega)])
      have P40 : P0 hp40 := P0_67 F40 (P0_W (W := [(66, 7)]) (by decide) (rU_fr U2 rfl) hP) (rowOk_V C40)
      refine xald 44 ⟨u341, _, rfl⟩ rfl rfl ?_
      refine xcst 45 (0) ⟨u341, _, rfl⟩ rfl (by decide) (fun z44 h44 => ?_)
      refine xputI 48 hH40 ⟨u341, _, rfl⟩ rfl rfl ⟨rfl, rfl⟩ (by omega) (by omega) (fun hp45 hH45 U45 => ?_)
      have s45 := U45.1
      have n45_66_6 : rN hp45 (66) 6 = rN hp40 (66) 6 := rU_ne U45 (by omega)
      have C45 : rowOk (rN hp45 67) q := rowOk_eq C40 (fun i _ => rU_ne U45 (by omega))
      have g5 : rN hp40 66 5 = (n : Int) := ((r_fr F40 rfl).trans (rU_ne U2 (by omega))).trans y1
      have P45 : P0 hp45 := P0_dep (n := n) U45 g5 (by omega) P40
      have Y45 : hyR hp45 0 h (some q) := ⟨U45.1.trans h44, Nat.zero_le _, fun k hk => absurd hk (Nat.not_lt_zero k), ((rU_ne U45 (by omega)).trans ((r_fr F40 rfl).trans (rU_ne U2 (by omega)))).trans y4.1, rowOk_eq y4.2 (fun i _ => (rU_ne U45 (by omega)).trans ((r_fr F40 rfl).trans (rU_ne U2 (by omega))))⟩
      refine xald 49 ⟨u341, _, rfl⟩ rfl rfl ?_
      refine xcall 52 [.ref 66] [] hH45 ⟨u341, _, rfl⟩ rfl rfl rfl rfl rfl (k_rtm hH45 (V := q.1) (T := q.2.1) (rowOk_rd C45) (fun z49 hp49 hH49 F49 B49 L49 e49 => ⟨_, rfl, ?_⟩))
      have hP49 : P0 hp49 := P0_W (W := bLT) (by decide) F49 P45
      exact xret ⟨u341, _, rfl⟩ rfl (hR _ hp49 hH49 hP49 ((((rU_fr U2 (by decide)).trans (bFr_sub F40 (by decide))).trans (rU_fr U45 (by decide))).trans (bFr_sub F49 (by decide))) (Or.inr ⟨q, rfl, ((r_fr F49 rfl).trans ((rU_ne U45 (by omega)).trans (r_fr F40 rfl))).trans (U2.1.trans h1), rowOk_eq C45 (fun i _ => r_fr F49 rfl), hyR_fr Y45 (r_fr F49 rfl) (r_fr F49 rfl) (fun i => r_fr F49 rfl) (fun i => r_fr F49 rfl), e49⟩))
    · rcases V19 with ⟨a, -⟩ | ⟨a, -⟩ <;> omega
  · refine xcst 14 (1) ⟨u341, _, rfl⟩ rfl (by decide) (fun z13 h13 => ?_)
    refine xgoto ⟨u341, _, rfl⟩ ?_
    refine xcst 19 (1) ⟨u341, _, rfl⟩ rfl (by decide) (fun z18 h18 => ?_)
    refine xcall 22 [.ref 66, .int _, .int _] [] hH2 ⟨u341, _, rfl⟩ rfl rfl rfl rfl rfl (k_failsE hH2 (by omega) (fun hp19 hH19 V19 => ⟨_, rfl, ?_⟩))
    refine xif_eq 25 ⟨u341, _, rfl⟩ rfl (fun c22 => ?_) (fun c22 => ?_)
    · rcases V19 with ⟨a, -⟩ | ⟨a, -⟩ <;> omega
    · refine xcst 26 (0) ⟨u341, _, rfl⟩ rfl (by decide) (fun z25 h25 => ?_)
      rcases V19 with ⟨a, -⟩ | ⟨a, U19⟩
      · omega
      · refine xret ⟨u341, _, rfl⟩ rfl (hR _ hp19 hH19 (P0_W (W := [(66, 7)]) (by decide) ((rU_fr U2 rfl).trans (rU_fr U19 rfl)) hP) ((rU_fr U2 (by decide)).trans (rU_fr U19 (by decide))) (Or.inl ⟨?_, U19.1.trans h18, rowOk_eq hC (fun i _ => (rU_ne U19 (by omega)).trans (rU_ne U2 (by omega))), ?_⟩))
        · cases sv with
          | none => rfl
          | some q => exact absurd y4.1 (by omega)
        · cases sv with
          | none => exact hyR_fr hY ((rU_ne U19 (by omega)).trans (rU_ne U2 (by omega))) ((rU_ne U19 (by omega)).trans (rU_ne U2 (by omega))) (fun i => (rU_ne U19 (by omega)).trans (rU_ne U2 (by omega))) (fun i => (rU_ne U19 (by omega)).trans (rU_ne U2 (by omega)))
          | some q => exact absurd y4.1 (by omega)
end
