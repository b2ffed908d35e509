/-! ===== ways by hand: the list of triples, as places; remove, swap, turn ===== -/
/-- the lists hold the triples A -/
def Arr (hp : amH) (m : Nat) (A : Nat → Nat × Nat × Nat) : Prop := rN hp 66 12 = (m : Int) ∧ ∀ k, k < m → rN hp 72 k = ((A k).1 : Int) ∧ rN hp 73 k = ((A k).2.1 : Int) ∧ rN hp 74 k = ((A k).2.2 : Int) ∧ rN hp 75 k = b3 (A k).1 (A k).2.1 (A k).2.2
abbrev prA (A : Nat → Nat × Nat × Nat) (k u v : Nat) : Prop := pr (A k).1 (A k).2.1 (A k).2.2 u v
/-- the triples A are those of the third points t, of p points -/
def Sys (t : Nat → Nat → Int) (p : Int) (m : Nat) (A : Nat → Nat × Nat × Nat) : Prop := m ≤ 35 ∧ (∀ k, k < m → (A k).1 < (A k).2.1 ∧ (A k).2.1 < (A k).2.2 ∧ ((A k).2.2 : Int) < p) ∧
  (∀ k u v, k < m → prA A k u v → t u v = ((A k).1 : Int) + (A k).2.1 + (A k).2.2 - u - v) ∧ (∀ k l u v, k < m → l < m → prA A k u v → prA A l u v → k = l) ∧
  (∀ u v, u < 15 → v < 15 → t u v = -1 ∨ ∃ k, k < m ∧ prA A k u v)
def bPA : List (Nat × Nat) := [(72, 999), (73, 999), (74, 999), (75, 999), (66, 12)]
theorem Arr_W {W : List (Nat × Nat)} (hW : bDj W bPA = true) {hp hp1 : amH} (hF : bFr W hp hp1) {m : Nat} {A : Nat → Nat × Nat × Nat} (h : Arr hp m A) : Arr hp1 m A := by
  have e : ∀ c i, bIn bPA c i = true → rN hp1 c i = rN hp c i := fun c i hc => r_fr hF (bDj_s hW c i hc)
  refine ⟨(e 66 12 (by decide)).trans h.1, fun k hk => ?_⟩
  rw [e 72 k (bIn_all (by decide) _), e 73 k (bIn_all (by decide) _), e 74 k (bIn_all (by decide) _), e 75 k (bIn_all (by decide) _)]
  exact h.2 k hk
theorem Lst_A {hp : amH} {m : Nat} (hV : Vf (rN hp 67)) (h : Lst hp m) : ∃ A, Arr hp m A ∧ Sys (tT hp) (rN hp 67 0) m A := by
  obtain ⟨h1, h2, h3, h4, h5⟩ := h
  have hp15 := hV.2.1
  have g : ∀ k, k < m → ∃ x y z : Nat, x < y ∧ y < z ∧ z < 15 ∧ tT hp x y = (z : Int) ∧ (rN hp 72 k).toNat = x ∧ (rN hp 73 k).toNat = y ∧ (rN hp 74 k).toNat = z ∧ rN hp 72 k = (x : Int) ∧ rN hp 73 k = (y : Int) ∧ rN hp 74 k = (z : Int) ∧ rN hp 75 k = b3 x y z := by
    intro k hk
    obtain ⟨x, y, z, g1, g2, g3, g4, g5, g6, g7, g8⟩ := h3 k hk
    exact ⟨x, y, z, g1, g2, g3, g4, by omega, by omega, by omega, g5, g6, g7, g8⟩
  have third : ∀ x y z u v : Nat, x < y → y < z → z < 15 → tT hp x y = (z : Int) → pr x y z u v → tT hp u v = (x : Int) + y + z - u - v := by
    intro x y z u v a b c d ⟨e1, e2, e3⟩
    obtain ⟨t1, t2, t3, t4, t5, t6, t7, t8, t9, t10, t11⟩ := Vf_t hV (by omega) (by omega) d
    rcases e2 with rfl | rfl | rfl <;> rcases e3 with rfl | rfl | rfl <;> first | exact absurd rfl e1 | omega
  refine ⟨fun k => ((rN hp 72 k).toNat, (rN hp 73 k).toNat, (rN hp 74 k).toNat), ⟨h1, fun k hk => ?_⟩, h2, fun k hk => ?_, fun k u v hk hp => ?_, fun k l u v hk hl hp1 hp2 => ?_, fun u v hu hv => ?_⟩
  · obtain ⟨x, y, z, g1, g2, g3, g4, g5, g6, g7, g8, g9, g10, g11⟩ := g k hk
    dsimp only
    rw [g5, g6, g7]
    exact ⟨g8, g9, g10, g11⟩
  · obtain ⟨x, y, z, g1, g2, g3, g4, g5, g6, g7, g8, g9, g10, g11⟩ := g k hk
    dsimp only
    rw [g5, g6, g7]
    exact ⟨g1, g2, (Vf_t hV (by omega) (by omega) g4).2.2.1⟩
  · obtain ⟨x, y, z, g1, g2, g3, g4, g5, g6, g7, g8, g9, g10, g11⟩ := g k hk
    dsimp only [prA] at hp ⊢
    rw [g5, g6, g7] at hp ⊢
    exact third x y z u v g1 g2 g3 g4 hp
  · obtain ⟨x, y, z, g1, g2, g3, g4, g5, g6, g7, g8, g9, g10, g11⟩ := g k hk
    obtain ⟨a, b, c, k1, k2, k3, k4, k5, k6, k7, k8, k9, k10, k11⟩ := g l hl
    dsimp only [prA] at hp1 hp2
    rw [g5, g6, g7] at hp1
    rw [k5, k6, k7] at hp2
    have q1 := third x y z u v g1 g2 g3 g4 hp1
    have q2 := third a b c u v k1 k2 k3 k4 hp2
    have hxa : x = a ∧ y = b := by omega
    rcases Nat.lt_trichotomy k l with z1 | z1 | z1
    · have := h4 k l z1 hl
      omega
    · exact z1
    · have := h4 l k z1 hk
      omega
  · rcases Vf_m hV hu hv with q | ⟨w, hw, q⟩
    · exact Or.inl q
    · right
      obtain ⟨t1, t2, t3, t4, t5, t6, t7, t8, t9, t10, t11⟩ := Vf_t hV hu hv q
      have key : ∀ x y z : Nat, x < y → y < z → z < 15 → tT hp x y = (z : Int) → pr x y z u v → ∃ k, k < m ∧ pr (rN hp 72 k).toNat (rN hp 73 k).toNat (rN hp 74 k).toNat u v := by
        intro x y z a b c d e
        obtain ⟨k, k1, k2, k3, k4⟩ := h5 x y z a b c d
        refine ⟨k, k1, ?_⟩
        rw [k2, k3, k4]
        exact e
      rcases Nat.lt_or_ge u v with uv | uv
      · rcases Nat.lt_or_ge v w with vw | vw
        · exact key u v w uv vw hw q ⟨by omega, by omega, by omega⟩
        · rcases Nat.lt_or_ge u w with uw | uw
          · exact key u w v uw (by omega) hv t8 ⟨by omega, by omega, by omega⟩
          · exact key w u v (by omega) uv hv t10 ⟨by omega, by omega, by omega⟩
      · rcases Nat.lt_or_ge u w with uw | uw
        · exact key v u w (by omega) uw hw t7 ⟨by omega, by omega, by omega⟩
        · rcases Nat.lt_or_ge v w with vw | vw
          · exact key v w u vw (by omega) hu t9 ⟨by omega, by omega, by omega⟩
          · exact key w v u (by omega) (by omega) hu t11 ⟨by omega, by omega, by omega⟩
theorem Sys_x {t : Nat → Nat → Int} {p : Int} {m : Nat} {A : Nat → Nat × Nat × Nat} (h : Sys t p m A) {k : Nat} (hk : k < m) : t (A k).1 (A k).2.1 = ((A k).2.2 : Int) := by
  have := h.2.1 k hk
  rw [h.2.2.1 k _ _ hk ⟨by omega, Or.inl rfl, Or.inr (Or.inl rfl)⟩]
  omega
def wNT : List (Nat × Nat) := (66, 7) :: bLT
theorem u257 : bUp 0 am_m257.1 = true := by decide +kernel
theorem u273 : bUp 0 am_m273.1 = true := by decide +kernel
theorem u279 : bUp 0 am_m279.1 = true := by decide +kernel
theorem u280 : bUp 0 am_m280.1 = true := by decide +kernel
theorem u281 : bUp 0 am_m281.1 = true := by decide +kernel
