/-! ===== ways by hand: the list of triples, as places; remove, swap, turn ===== -/
def bPL : List (Nat × Nat) := [(67, 999), (72, 999), (73, 999), (74, 999), (75, 999), (66, 12)]
theorem Lst_W {W : List (Nat × Nat)} (hW : bDj W bPL = true) {hp hp1 : amH} (hF : bFr W hp hp1) {m : Nat} (h : Lst hp m) : Lst hp1 m := by
  have e : ∀ c i, bIn bPL c i = true → rN hp1 c i = rN hp c i := fun c i hc => r_fr hF (bDj_s hW c i hc)
  have e67 : ∀ u v, tT hp1 u v = tT hp u v := fun u v => e 67 _ (bIn_all (by decide) _)
  have e72 : ∀ i, rN hp1 72 i = rN hp 72 i := fun i => e 72 _ (bIn_all (by decide) _)
  have e73 : ∀ i, rN hp1 73 i = rN hp 73 i := fun i => e 73 _ (bIn_all (by decide) _)
  have e74 : ∀ i, rN hp1 74 i = rN hp 74 i := fun i => e 74 _ (bIn_all (by decide) _)
  have e75 : ∀ i, rN hp1 75 i = rN hp 75 i := fun i => e 75 _ (bIn_all (by decide) _)
  obtain ⟨h1, h2, h3, h4, h5⟩ := h
  refine ⟨(e 66 12 (by decide)).trans h1, h2, fun k hk => ?_, fun k l a b => by rw [e72, e73, e72, e73]; exact h4 k l a b, fun x y z a b c d => ?_⟩
  · obtain ⟨x, y, z, g1, g2, g3, g4, g5, g6, g7, g8⟩ := h3 k hk
    exact ⟨x, y, z, g1, g2, g3, (e67 x y).trans g4, (e72 k).trans g5, (e73 k).trans g6, (e74 k).trans g7, (e75 k).trans g8⟩
  · obtain ⟨k, g1, g2, g3, g4⟩ := h5 x y z a b c (by rw [← e67]; exact d)
    exact ⟨k, g1, (e72 k).trans g2, (e73 k).trans g3, (e74 k).trans g4⟩
/-- the lists hold the triples A -/
def Arr (hp : amH) (m : Nat) (A : Nat → Nat × Nat × Nat) : Prop := rN hp 66 12 = (m : Int) ∧ ∀ k, k < m → rN hp 72 k = ((A k).1 : Int) ∧ rN hp 73 k = ((A k).2.1 : Int) ∧ rN hp 74 k = ((A k).2.2 : Int) ∧ rN hp 75 k = b3 (A k).1 (A k).2.1 (A k).2.2
abbrev prA (A : Nat → Nat × Nat × Nat) (k u v : Nat) : Prop := pr (A k).1 (A k).2.1 (A k).2.2 u v
/-- the triples A are those of the third points t, of p points -/
def Sys (t : Nat → Nat → Int) (p : Int) (m : Nat) (A : Nat → Nat × Nat × Nat) : Prop := m ≤ 35 ∧ (∀ k, k < m → (A k).1 < (A k).2.1 ∧ (A k).2.1 < (A k).2.2 ∧ ((A k).2.2 : Int) < p) ∧
  (∀ k u v, k < m → prA A k u v → t u v = ((A k).1 : Int) + (A k).2.1 + (A k).2.2 - u - v) ∧ (∀ k l u v, k < m → l < m → prA A k u v → prA A l u v → k = l) ∧
  (∀ u v, u < 15 → v < 15 → t u v = -1 ∨ ∃ k, k < m ∧ prA A k u v)
def bPA : List (Nat × Nat) := [(72, 999), (73, 999), (74, 999), (75, 999), (66, 12)]
theorem Arr_W {W : List (Nat × Nat)} (hW : bDj W bPA = true) {hp hp1 : amH} (hF : bFr W hp hp1) {m : Nat} {A : Nat → Nat × Nat × Nat} (h : Arr hp m A) : Arr hp1 m A := by
  have e : ∀ c i, bIn bPA c i = true → rN hp1 c i = rN hp c i := fun c i hc => r_fr hF (bDj_s hW c i hc)
  refine ⟨(e 66 12 (by decide)).trans h.1, fun k hk => ?_⟩
  rw [e 72 k (bIn_all (by decide) _), e 73 k (bIn_all (by decide) _), e 74 k (bIn_all (by decide) _), e 75 k (bIn_all (by decide) _)]
  exact h.2 k hk
theorem Lst_A {hp : amH} {m : Nat} (hV : Vf (rN hp 67)) (h : Lst hp m) : ∃ A, Arr hp m A ∧ Sys (tT hp) (rN hp 67 0) m A := by
  obtain ⟨h1, h2, h3, h4, h5⟩ := h
  have hp15 := hV.2.1
  have g : ∀ k, k < m → ∃ x y z : Nat, x < y ∧ y < z ∧ z < 15 ∧ tT hp x y = (z : Int) ∧ (rN hp 72 k).toNat = x ∧ (rN hp 73 k).toNat = y ∧ (rN hp 74 k).toNat = z ∧ rN hp 72 k = (x : Int) ∧ rN hp 73 k = (y : Int) ∧ rN hp 74 k = (z : Int) ∧ rN hp 75 k = b3 x y z := by
    intro k hk
    obtain ⟨x, y, z, g1, g2, g3, g4, g5, g6, g7, g8⟩ := h3 k hk
    exact ⟨x, y, z, g1, g2, g3, g4, by omega, by omega, by omega, g5, g6, g7, g8⟩
  have third : ∀ x y z u v : Nat, x < y → y < z → z < 15 → tT hp x y = (z : Int) → pr x y z u v → tT hp u v = (x : Int) + y + z - u - v := by
    intro x y z u v a b c d ⟨e1, e2, e3⟩
    obtain ⟨t1, t2, t3, t4, t5, t6, t7, t8, t9, t10, t11⟩ := Vf_t hV (by omega) (by omega) d
    rcases e2 with rfl | rfl | rfl <;> rcases e3 with rfl | rfl | rfl <;> first | exact absurd rfl e1 | omega
  refine ⟨fun k => ((rN hp 72 k).toNat, (rN hp 73 k).toNat, (rN hp 74 k).toNat), ⟨h1, fun k hk => ?_⟩, h2, fun k hk => ?_, fun k u v hk hp => ?_, fun k l u v hk hl hp1 hp2 => ?_, fun u v hu hv => ?_⟩
  · obtain ⟨x, y, z, g1, g2, g3, g4, g5, g6, g7, g8, g9, g10, g11⟩ := g k hk
    dsimp only
    rw [g5, g6, g7]
    exact ⟨g8, g9, g10, g11⟩
  · obtain ⟨x, y, z, g1, g2, g3, g4, g5, g6, g7, g8, g9, g10, g11⟩ := g k hk
    dsimp only
    rw [g5, g6, g7]
    exact ⟨g1, g2, (Vf_t hV (by omega) (by omega) g4).2.2.1⟩
  · obtain ⟨x, y, z, g1, g2, g3, g4, g5, g6, g7, g8, g9, g10, g11⟩ := g k hk
    dsimp only [prA] at hp ⊢
    rw [g5, g6, g7] at hp ⊢
    exact third x y z u v g1 g2 g3 g4 hp
  · obtain ⟨x, y, z, g1, g2, g3, g4, g5, g6, g7, g8, g9, g10, g11⟩ := g k hk
    obtain ⟨a, b, c, k1, k2, k3, k4, k5, k6, k7, k8, k9, k10, k11⟩ := g l hl
    dsimp only [prA] at hp1 hp2
    rw [g5, g6, g7] at hp1
    rw [k5, k6, k7] at hp2
    have q1 := third x y z u v g1 g2 g3 g4 hp1
    have q2 := third a b c u v k1 k2 k3 k4 hp2
    have hxa : x = a ∧ y = b := by omega
    rcases Nat.lt_trichotomy k l with z1 | z1 | z1
    · have := h4 k l z1 hl
      omega
    · exact z1
    · have := h4 l k z1 hk
      omega
  · rcases Vf_m hV hu hv with q | ⟨w, hw, q⟩
    · exact Or.inl q
    · right
      obtain ⟨t1, t2, t3, t4, t5, t6, t7, t8, t9, t10, t11⟩ := Vf_t hV hu hv q
      have key : ∀ x y z : Nat, x < y → y < z → z < 15 → tT hp x y = (z : Int) → pr x y z u v → ∃ k, k < m ∧ pr (rN hp 72 k).toNat (rN hp 73 k).toNat (rN hp 74 k).toNat u v := by
        intro x y z a b c d e
        obtain ⟨k, k1, k2, k3, k4⟩ := h5 x y z a b c d
        refine ⟨k, k1, ?_⟩
        rw [k2, k3, k4]
        exact e
      rcases Nat.lt_or_ge u v with uv | uv
      · rcases Nat.lt_or_ge v w with vw | vw
        · exact key u v w uv vw hw q ⟨by omega, by omega, by omega⟩
        · rcases Nat.lt_or_ge u w with uw | uw
          · exact key u w v uw (by omega) hv t8 ⟨by omega, by omega, by omega⟩
          · exact key w u v (by omega) uv hv t10 ⟨by omega, by omega, by omega⟩
      · rcases Nat.lt_or_ge u w with uw | uw
        · exact key v u w (by omega) uw hw t7 ⟨by omega, by omega, by omega⟩
        · rcases Nat.lt_or_ge v w with vw | vw
          · exact key v w u vw (by omega) hu t9 ⟨by omega, by omega, by omega⟩
          · exact key w v u (by omega) (by omega) hu t11 ⟨by omega, by omega, by omega⟩
theorem Sys_x {t : Nat → Nat → Int} {p : Int} {m : Nat} {A : Nat → Nat × Nat × Nat} (h : Sys t p m A) {k : Nat} (hk : k < m) : t (A k).1 (A k).2.1 = ((A k).2.2 : Int) := by
  have := h.2.1 k hk
  rw [h.2.2.1 k _ _ hk ⟨by omega, Or.inl rfl, Or.inr (Or.inl rfl)⟩]
  omega
/-- the first i triples are taken -/
def Tkn (t : Nat → Nat → Int) (A : Nat → Nat × Nat × Nat) (i : Nat) (hp : amH) : Prop := ∀ u v, u < 15 → v < 15 → (∀ k, k < i → prA A k u v → tT hp u v = -1) ∧ ((∀ k, k < i → ¬ prA A k u v) → tT hp u v = t u v)
theorem Tkn_x {t : Nat → Nat → Int} {p : Int} {m i : Nat} {A : Nat → Nat × Nat × Nat} {hp : amH} (hp15 : p ≤ 15) (h : Sys t p m A) (hi : i < m) (hT : Tkn t A i hp) : tT hp (A i).1 (A i).2.1 = ((A i).2.2 : Int) := by
  have h1 := h.2.1 i hi
  rw [(hT (A i).1 (A i).2.1 (by omega) (by omega)).2 (fun k hk z => ?_)]
  · exact Sys_x h hi
  · have := h.2.2.2.1 k i _ _ (by omega) hi z ⟨by omega, Or.inl rfl, Or.inr (Or.inl rfl)⟩
    omega
theorem Tkn_s {t : Nat → Nat → Int} {i : Nat} {A : Nat → Nat × Nat × Nat} {hp hp1 : amH} (hT : Tkn t A i hp) (h : ∀ u v, u < 15 → v < 15 → tT hp1 u v = if prA A i u v then -1 else tT hp u v) : Tkn t A (i + 1) hp1 := by
  intro u v hu hv
  obtain ⟨h1, h2⟩ := hT u v hu hv
  rw [h u v hu hv]
  refine ⟨fun k hk z => ?_, fun z => ?_⟩
  · split
    · rfl
    · next e =>
      rcases Nat.lt_or_ge k i with q | q
      · exact h1 k q z
      · have : k = i := by omega
        subst this
        exact absurd z e
  · rw [if_neg (z i (by omega))]
    exact h2 (fun k hk => z k (by omega))
theorem Tkn_e {t : Nat → Nat → Int} {p : Int} {m : Nat} {A : Nat → Nat × Nat × Nat} {hp : amH} (h : Sys t p m A) (hT : Tkn t A m hp) : ∀ u v, u < 15 → v < 15 → tT hp u v = -1 := by
  intro u v hu hv
  obtain ⟨h1, h2⟩ := hT u v hu hv
  rcases Classical.em (∃ k, k < m ∧ prA A k u v) with ⟨k, hk, z⟩ | z
  · exact h1 k hk z
  · rw [h2 (fun k hk q => z ⟨k, hk, q⟩)]
    rcases h.2.2.2.2 u v hu hv with q | q
    · exact q
    · exact absurd q z
/-- the images of the first i triples are put -/
def Img (s : Nat → Nat) (A : Nat → Nat × Nat × Nat) (i : Nat) (hp : amH) : Prop := ∀ u v, u < 15 → v < 15 → tT hp u v = -1 ∨ ∃ k, k < i ∧ pr (s (A k).1) (s (A k).2.1) (s (A k).2.2) u v
theorem Img_f {t : Nat → Nat → Int} {p : Int} {m i : Nat} {A : Nat → Nat × Nat × Nat} {s : Nat → Nat} {hp : amH} (hp15 : p ≤ 15) (h : Sys t p m A) (hs : ∀ x : Nat, (x : Int) < p → (s x : Int) < p) (hinj : ∀ x y : Nat, (x : Int) < p → (y : Int) < p → s x = s y → x = y) (hi : i < m) (hI : Img s A i hp) : fr3 hp (s (A i).1) (s (A i).2.1) (s (A i).2.2) := by
  have h1 := h.2.1 i hi
  have key : ∀ x y : Nat, (x : Int) < p → (y : Int) < p → prA A i x y → tT hp (s x) (s y) = -1 := by
    intro x y hx hy hxy
    have sx := hs x hx
    have sy := hs y hy
    rcases hI (s x) (s y) (by omega) (by omega) with q | ⟨k, hk, q1, q2, q3⟩
    · exact q
    · exfalso
      have h2 := h.2.1 k (by omega)
      have : ∀ w : Nat, (w : Int) < p → (s w = s (A k).1 ∨ s w = s (A k).2.1 ∨ s w = s (A k).2.2) → (w = (A k).1 ∨ w = (A k).2.1 ∨ w = (A k).2.2) := by
        intro w hw z
        rcases z with z | z | z
        · exact Or.inl (hinj _ _ hw (by omega) z)
        · exact Or.inr (Or.inl (hinj _ _ hw (by omega) z))
        · exact Or.inr (Or.inr (hinj _ _ hw (by omega) z))
      have := h.2.2.2.1 k i x y (by omega) hi ⟨fun z => q1 (by rw [z]), this x hx q2, this y hy q3⟩ hxy
      omega
  exact ⟨key _ _ (by omega) (by omega) ⟨by omega, by omega, by omega⟩, key _ _ (by omega) (by omega) ⟨by omega, by omega, by omega⟩, key _ _ (by omega) (by omega) ⟨by omega, by omega, by omega⟩⟩
theorem Img_s {i : Nat} {A : Nat → Nat × Nat × Nat} {s : Nat → Nat} {hp hp1 : amH} {f : Nat → Nat → Int} (hI : Img s A i hp) (h : ∀ u v, u < 15 → v < 15 → tT hp1 u v = if pr (s (A i).1) (s (A i).2.1) (s (A i).2.2) u v then f u v else tT hp u v) : Img s A (i + 1) hp1 := by
  intro u v hu hv
  rw [h u v hu hv]
  split
  · next e => exact Or.inr ⟨i, by omega, e⟩
  · rcases hI u v hu hv with q | ⟨k, hk, q⟩
    · exact Or.inl q
    · exact Or.inr ⟨k, by omega, q⟩
def wNT : List (Nat × Nat) := (66, 7) :: bLT
theorem u257 : bUp 0 am_m257.1 = true := by decide +kernel
theorem k_notrip {d : Nat} {hp : amH} {R : xQ} {t : Int32} (hH : bHk 84 bTT hp) (hP : P0 hp) (hR : ∀ (z : Int32) hp1, bHk 84 bTT hp1 → P0 hp1 → bFr wNT hp hp1 → (z.toInt = 1 ∨ (z.toInt = 0 ∧ ∃ m, Lst hp1 m ∧ 0 ≤ t.toInt ∧ t.toInt < (m : Int))) → R (.inl (some (.int z))) hp1) : xK (d + 2) 257 [.ref 66, .int t] hp R := by
  refine xin (M := am_m257) rfl rfl rfl ?_
  have G : bFr wNT hp hp := bFr.refl _ _
  have q1 := hP.1.1
  have q2 := hP.1.2.1
  refine xald 1 ⟨u257, _, rfl⟩ rfl rfl ?_
  refine xcst 2 (0) ⟨u257, _, rfl⟩ rfl (by decide) (fun z1 h1 => ?_)
  refine xputI 5 hH ⟨u257, _, rfl⟩ rfl rfl ⟨rfl, rfl⟩ (by omega) (by omega) (fun hp2 hH2 U2 => ?_)
  have G2 := G.trans (rU_fr U2 (W := wNT) (by decide))
  have hP2 := P0_W (W := [(66, 7)]) (by decide) (rU_fr U2 rfl) hP
  have e2 : rN hp2 67 0 = rN hp 67 0 := rU_ne U2 (by omega)
  refine xald 6 ⟨u257, _, rfl⟩ rfl rfl ?_
  refine xcall 9 [.ref 66] [] hH2 ⟨u257, _, rfl⟩ rfl rfl rfl rfl rfl (k_lst hH2 hP2 (fun hp6 m hH6 hP6 F6 hL6 => ⟨_, rfl, ?_⟩))
  have G6 := G2.trans (bFr_sub (W1 := wNT) F6 (by decide))
  have e6 : rN hp6 67 0 = rN hp2 67 0 := r_fr F6 rfl
  have t6 : ∀ u v, tT hp6 u v = tT hp2 u v := fun u v => r_fr F6 rfl
  refine xald 10 ⟨u257, _, rfl⟩ rfl rfl ?_
  refine xild 11 ⟨u257, _, rfl⟩ rfl rfl ?_
  refine xcst 12 (0) ⟨u257, _, rfl⟩ rfl (by decide) (fun z11 h11 => ?_)
  refine xald 13 ⟨u257, _, rfl⟩ rfl rfl ?_
  refine xgetI 16 hH6 ⟨u257, _, rfl⟩ rfl rfl (fun z13 h13 => ?_)
  refine xcst 17 (1) ⟨u257, _, rfl⟩ rfl (by decide) (fun z16 h16 => ?_)
  have hm1 := hL6.1
  have hm2 := hL6.2.1
  refine xsub 18 _ ⟨u257, _, rfl⟩ rfl rfl (by omega) (by omega) (fun z17 h17 => ?_)
  refine xcallS 21 [.int _, .int _, .int _] [.ref 66] hH6 ⟨u257, _, rfl⟩ rfl rfl rfl rfl rfl (k_inr (fun z18 h18 => ⟨_, rfl, ?_⟩))
  refine xif_ne 24 ⟨u257, _, rfl⟩ rfl (fun c21 => ?_) (fun c21 => ?_)
  · refine xcst 29 (0) ⟨u257, _, rfl⟩ rfl (by decide) (fun z28 h28 => ?_)
    refine xcst 30 (1) ⟨u257, _, rfl⟩ rfl (by decide) (fun z29 h29 => ?_)
    refine xcall 33 [.ref 66, .int _, .int _] [] hH6 ⟨u257, _, rfl⟩ rfl rfl rfl rfl rfl (k_fails2 hH6 hP6 (by omega) (fun hp30 hH30 hP30 F30 => ⟨_, rfl, ?_⟩))
    have G30 := G6.trans (bFr_sub (W1 := wNT) F30 (by decide))
    have e30 : rN hp30 67 0 = rN hp6 67 0 := r_fr F30 rfl
    have t30 : ∀ u v, tT hp30 u v = tT hp6 u v := fun u v => r_fr F30 rfl
    exact xretB ⟨u257, _, rfl⟩ rfl (by omega) (hR _ _ hH30 hP30 G30 (Or.inr ⟨h28, m, Lst_W (by decide) F30 hL6, by omega, by omega⟩))
  · refine xcst 25 (1) ⟨u257, _, rfl⟩ rfl (by decide) (fun z24 h24 => ?_)
    refine xgoto ⟨u257, _, rfl⟩ ?_
    refine xcst 30 (1) ⟨u257, _, rfl⟩ rfl (by decide) (fun z29 h29 => ?_)
    refine xcall 33 [.ref 66, .int _, .int _] [] hH6 ⟨u257, _, rfl⟩ rfl rfl rfl rfl rfl (k_fails2 hH6 hP6 (by omega) (fun hp30 hH30 hP30 F30 => ⟨_, rfl, ?_⟩))
    have G30 := G6.trans (bFr_sub (W1 := wNT) F30 (by decide))
    have e30 : rN hp30 67 0 = rN hp6 67 0 := r_fr F30 rfl
    have t30 : ∀ u v, tT hp30 u v = tT hp6 u v := fun u v => r_fr F30 rfl
    exact xretB ⟨u257, _, rfl⟩ rfl (by omega) (hR _ _ hH30 hP30 G30 (Or.inl h24))
theorem u273 : bUp 0 am_m273.1 = true := by decide +kernel
theorem p273_s : bSem amGG P0 84 bTT 273 (sPub 1 9) := by
  refine pub1 (N := am_m273) rfl (fun x hp hH hP => ?_)
  refine xin (M := am_m273) rfl rfl rfl ?_
  have G := bFr.refl wM hp
  have q1 := hP.1.1
  have q2 := hP.1.2.1
  refine xald 1 ⟨u273, _, rfl⟩ rfl rfl ?_
  refine xild 2 ⟨u273, _, rfl⟩ rfl rfl ?_
  refine xcall 5 [.ref 66, .int _] [] hH ⟨u273, _, rfl⟩ rfl rfl rfl rfl rfl (k_notrip hH hP (fun z2 hp2 hH2 hP2 F2 h2 => ⟨_, rfl, ?_⟩))
  have G2 := G.trans (bFr_sub (W1 := wM) F2 (by decide))
  have e2 : rN hp2 67 0 = rN hp 67 0 := r_fr F2 rfl
  have t2 : ∀ u v, tT hp2 u v = tT hp u v := fun u v => r_fr F2 rfl
  refine xif_eq 8 ⟨u273, _, rfl⟩ rfl (fun c5 => ?_) (fun c5 => ?_)
  · obtain ⟨m, hL, t0, t1⟩ : ∃ m, Lst hp2 m ∧ 0 ≤ x.toInt ∧ x.toInt < (m : Int) := by
      rcases h2 with z | z
      · omega
      · exact z.2
    have hm2 := hL.2.1
    refine xald 11 ⟨u273, _, rfl⟩ rfl rfl ?_
    refine xcall 14 [.ref 66] [] hH2 ⟨u273, _, rfl⟩ rfl rfl rfl rfl rfl (k_rem hH2 hP2 (fun hp11 hH11 hP11 F11 => ⟨_, rfl, ?_⟩))
    have G11 := G2.trans (bFr_sub (W1 := wM) F11 (by decide))
    have e11 : rN hp11 67 0 = rN hp2 67 0 := r_fr F11 rfl
    have t11 : ∀ u v, tT hp11 u v = tT hp2 u v := fun u v => r_fr F11 rfl
    obtain ⟨A, hA, hS⟩ := Lst_A hP11.1 (Lst_W (by decide) F11 hL)
    obtain ⟨a1, a2, a3, a4⟩ := hA.2 x.toInt.toNat (by omega)
    have hs := hS.2.1 x.toInt.toNat (by omega)
    have hx := Sys_x hS (k := x.toInt.toNat) (by omega)
    have am := hA.1
    refine xald 15 ⟨u273, _, rfl⟩ rfl rfl ?_
    refine xald 16 ⟨u273, _, rfl⟩ rfl rfl ?_
    refine xgetR 19 72 hH11 ⟨u273, _, rfl⟩ rfl rfl ?_
    refine xild 20 ⟨u273, _, rfl⟩ rfl rfl ?_
    refine xiald 21 (x).toInt.toNat hH11 ⟨u273, _, rfl⟩ rfl (by decide) rfl (by omega) (by omega) (fun z20 h20 => ?_)
    refine xald 22 ⟨u273, _, rfl⟩ rfl rfl ?_
    refine xgetR 25 73 hH11 ⟨u273, _, rfl⟩ rfl rfl ?_
    refine xild 26 ⟨u273, _, rfl⟩ rfl rfl ?_
    refine xiald 27 (x).toInt.toNat hH11 ⟨u273, _, rfl⟩ rfl (by decide) rfl (by omega) (by omega) (fun z26 h26 => ?_)
    refine xald 28 ⟨u273, _, rfl⟩ rfl rfl ?_
    refine xgetR 31 74 hH11 ⟨u273, _, rfl⟩ rfl rfl ?_
    refine xild 32 ⟨u273, _, rfl⟩ rfl rfl ?_
    refine xiald 33 (x).toInt.toNat hH11 ⟨u273, _, rfl⟩ rfl (by decide) rfl (by omega) (by omega) (fun z32 h32 => ?_)
    refine xcall 36 [.ref 66, .int _, .int _, .int _] [] hH11 ⟨u273, _, rfl⟩ rfl rfl rfl rfl rfl (k_take hH11 hP11 (by omega) (by omega) (by omega) (by omega) (by rw [show z20.toInt.toNat = (A x.toInt.toNat).1 by omega, show z26.toInt.toNat = (A x.toInt.toNat).2.1 by omega, hx]; omega) (by omega) (fun hp33 hH33 hP33 F33 E33 T33 => ⟨_, rfl, ?_⟩))
    have G33 := G11.trans (bFr_sub (W1 := wM) F33 (by decide))
    have e33 : rN hp33 67 0 = rN hp11 67 0 := E33 0 (by omega)
    refine xald 37 ⟨u273, _, rfl⟩ rfl rfl ?_
    refine xgetI 40 hH33 ⟨u273, _, rfl⟩ rfl rfl (fun z37 h37 => ?_)
    refine xcst 41 (1) ⟨u273, _, rfl⟩ rfl (by decide) (fun z40 h40 => ?_)
    have e12 : rN hp33 66 12 = rN hp11 66 12 := r_fr F33 rfl
    refine xsub 42 _ ⟨u273, _, rfl⟩ rfl rfl (by omega) (by omega) (fun z41 h41 => ?_)
    exact xret ⟨u273, _, rfl⟩ rfl ⟨⟨_, rfl⟩, hH33, hP33, G33⟩
  · refine xcst 9 (0) ⟨u273, _, rfl⟩ rfl (by decide) (fun z8 h8 => ?_)
    exact xret ⟨u273, _, rfl⟩ rfl ⟨⟨_, rfl⟩, hH2, hP2, G2⟩
theorem u279 : bUp 0 am_m279.1 = true := by decide +kernel
theorem u280 : bUp 0 am_m280.1 = true := by decide +kernel
theorem u281 : bUp 0 am_m281.1 = true := by decide +kernel
theorem tk279 {hp0 : amH} {t : Nat → Nat → Int} {p : Int} {m : Nat} {A : Nat → Nat × Nat × Nat} (p3 : 3 ≤ p) (p15 : p ≤ 15) (hS : Sys t p m A) {x y n : Int32} {R : xQ} (hQ : ∀ (k : Int32) hp, bHk 84 bTT hp → P0 hp → bFr [(67, 999)] hp0 hp → rN hp 67 0 = p → Arr hp m A → Tkn t A m hp → xV 9 am_m279 80 [some (.ref 66), some (.int x), some (.int y), some (.int n), some (.int k)] [] hp R) : ∀ (j : Nat) (k : Int32) hp, bHk 84 bTT hp → P0 hp → bFr [(67, 999)] hp0 hp → rN hp 67 0 = p → Arr hp m A → Tkn t A k.toInt.toNat hp → k.toInt + (j : Int) = 36 → 0 ≤ k.toInt → k.toInt ≤ (m : Int) → xV 9 am_m279 40 [some (.ref 66), some (.int x), some (.int y), some (.int n), some (.int k)] [] hp R := by
  intro j
  induction j using Nat.strongRecOn with
  | ind j ih =>
    intro k hp hH hP hF he hA hT hj k0 k1
    have am := hA.1
    have m35 := hS.1
    refine xild2 42 ⟨u279, _, rfl⟩ rfl rfl ?_
    refine xald 43 ⟨u279, _, rfl⟩ rfl rfl ?_
    refine xgetI 46 hH ⟨u279, _, rfl⟩ rfl rfl (fun z43 h43 => ?_)
    refine xcmp_ge 49 ⟨u279, _, rfl⟩ rfl (fun c46 => ?_) (fun c46 => ?_)
    · exact hQ _ hp hH hP hF he hA (by rwa [show k.toInt.toNat = m by omega] at hT)
    · obtain ⟨a1, a2, a3, a4⟩ := hA.2 k.toInt.toNat (by omega)
      have hs := hS.2.1 k.toInt.toNat (by omega)
      have hx := Tkn_x p15 hS (i := k.toInt.toNat) (by omega) hT
      refine xald 50 ⟨u279, _, rfl⟩ rfl rfl ?_
      refine xald 51 ⟨u279, _, rfl⟩ rfl rfl ?_
      refine xgetR 54 72 hH ⟨u279, _, rfl⟩ rfl rfl ?_
      refine xild2 56 ⟨u279, _, rfl⟩ rfl rfl ?_
      refine xiald 57 (k).toInt.toNat hH ⟨u279, _, rfl⟩ rfl (by decide) rfl (by omega) (by omega) (fun z56 h56 => ?_)
      refine xald 58 ⟨u279, _, rfl⟩ rfl rfl ?_
      refine xgetR 61 73 hH ⟨u279, _, rfl⟩ rfl rfl ?_
      refine xild2 63 ⟨u279, _, rfl⟩ rfl rfl ?_
      refine xiald 64 (k).toInt.toNat hH ⟨u279, _, rfl⟩ rfl (by decide) rfl (by omega) (by omega) (fun z63 h63 => ?_)
      refine xald 65 ⟨u279, _, rfl⟩ rfl rfl ?_
      refine xgetR 68 74 hH ⟨u279, _, rfl⟩ rfl rfl ?_
      refine xild2 70 ⟨u279, _, rfl⟩ rfl rfl ?_
      refine xiald 71 (k).toInt.toNat hH ⟨u279, _, rfl⟩ rfl (by decide) rfl (by omega) (by omega) (fun z70 h70 => ?_)
      refine xcall 74 [.ref 66, .int _, .int _, .int _] [] hH ⟨u279, _, rfl⟩ rfl rfl rfl rfl rfl (k_take hH hP (by omega) (by omega) (by omega) (by omega) (by rw [show z56.toInt.toNat = (A k.toInt.toNat).1 by omega, show z63.toInt.toNat = (A k.toInt.toNat).2.1 by omega, hx]; omega) (by omega) (fun hp71 hH71 hP71 F71 E71 T71 => ⟨_, rfl, ?_⟩))
      have e71 : rN hp71 67 0 = rN hp 67 0 := E71 0 (by omega)
      have T1 := Tkn_s hT (i := k.toInt.toNat) (hp1 := hp71) (fun u v hu hv => by
        rw [T71 u v hu hv, show z56.toInt.toNat = (A k.toInt.toNat).1 by omega, show z63.toInt.toNat = (A k.toInt.toNat).2.1 by omega, show z70.toInt.toNat = (A k.toInt.toNat).2.2 by omega])
      have e71 : rN hp71 67 0 = rN hp 67 0 := E71 0 (by omega)
      refine xinc 77 (1) ⟨u279, _, rfl⟩ rfl rfl rfl (by decide) (by omega) (by omega) (fun z74 h74 => ?_)
      refine xgoto ⟨u279, _, rfl⟩ ?_
      exact ih (j - 1) (by omega) _ _ hH71 hP71 (hF.trans F71) (e71.trans he) (Arr_W (W := [(67, 999)]) (by decide) F71 hA) (by rw [show k.toInt.toNat + 1 = (k.toInt + 1).toNat by omega] at T1; rwa [show Int32.toInt z74 = k.toInt + 1 by omega]) (by omega) (by omega) (by omega)
theorem tk281 {hp0 : amH} {t : Nat → Nat → Int} {p : Int} {m : Nat} {A : Nat → Nat × Nat × Nat} (p3 : 3 ≤ p) (p15 : p ≤ 15) (hS : Sys t p m A) {x n : Int32} {R : xQ} (hQ : ∀ (k : Int32) hp, bHk 84 bTT hp → P0 hp → bFr [(67, 999)] hp0 hp → rN hp 67 0 = p → Arr hp m A → Tkn t A m hp → xV 9 am_m281 69 [some (.ref 66), some (.int x), some (.int n), some (.int k)] [] hp R) : ∀ (j : Nat) (k : Int32) hp, bHk 84 bTT hp → P0 hp → bFr [(67, 999)] hp0 hp → rN hp 67 0 = p → Arr hp m A → Tkn t A k.toInt.toNat hp → k.toInt + (j : Int) = 36 → 0 ≤ k.toInt → k.toInt ≤ (m : Int) → xV 9 am_m281 33 [some (.ref 66), some (.int x), some (.int n), some (.int k)] [] hp R := by
  intro j
  induction j using Nat.strongRecOn with
  | ind j ih =>
    intro k hp hH hP hF he hA hT hj k0 k1
    have am := hA.1
    have m35 := hS.1
    refine xild 34 ⟨u281, _, rfl⟩ rfl rfl ?_
    refine xald 35 ⟨u281, _, rfl⟩ rfl rfl ?_
    refine xgetI 38 hH ⟨u281, _, rfl⟩ rfl rfl (fun z35 h35 => ?_)
    refine xcmp_ge 41 ⟨u281, _, rfl⟩ rfl (fun c38 => ?_) (fun c38 => ?_)
    · exact hQ _ hp hH hP hF he hA (by rwa [show k.toInt.toNat = m by omega] at hT)
    · obtain ⟨a1, a2, a3, a4⟩ := hA.2 k.toInt.toNat (by omega)
      have hs := hS.2.1 k.toInt.toNat (by omega)
      have hx := Tkn_x p15 hS (i := k.toInt.toNat) (by omega) hT
      refine xald 42 ⟨u281, _, rfl⟩ rfl rfl ?_
      refine xald 43 ⟨u281, _, rfl⟩ rfl rfl ?_
      refine xgetR 46 72 hH ⟨u281, _, rfl⟩ rfl rfl ?_
      refine xild 47 ⟨u281, _, rfl⟩ rfl rfl ?_
      refine xiald 48 (k).toInt.toNat hH ⟨u281, _, rfl⟩ rfl (by decide) rfl (by omega) (by omega) (fun z47 h47 => ?_)
      refine xald 49 ⟨u281, _, rfl⟩ rfl rfl ?_
      refine xgetR 52 73 hH ⟨u281, _, rfl⟩ rfl rfl ?_
      refine xild 53 ⟨u281, _, rfl⟩ rfl rfl ?_
      refine xiald 54 (k).toInt.toNat hH ⟨u281, _, rfl⟩ rfl (by decide) rfl (by omega) (by omega) (fun z53 h53 => ?_)
      refine xald 55 ⟨u281, _, rfl⟩ rfl rfl ?_
      refine xgetR 58 74 hH ⟨u281, _, rfl⟩ rfl rfl ?_
      refine xild 59 ⟨u281, _, rfl⟩ rfl rfl ?_
      refine xiald 60 (k).toInt.toNat hH ⟨u281, _, rfl⟩ rfl (by decide) rfl (by omega) (by omega) (fun z59 h59 => ?_)
      refine xcall 63 [.ref 66, .int _, .int _, .int _] [] hH ⟨u281, _, rfl⟩ rfl rfl rfl rfl rfl (k_take hH hP (by omega) (by omega) (by omega) (by omega) (by rw [show z47.toInt.toNat = (A k.toInt.toNat).1 by omega, show z53.toInt.toNat = (A k.toInt.toNat).2.1 by omega, hx]; omega) (by omega) (fun hp60 hH60 hP60 F60 E60 T60 => ⟨_, rfl, ?_⟩))
      have e60 : rN hp60 67 0 = rN hp 67 0 := E60 0 (by omega)
      have T1 := Tkn_s hT (i := k.toInt.toNat) (hp1 := hp60) (fun u v hu hv => by
        rw [T60 u v hu hv, show z47.toInt.toNat = (A k.toInt.toNat).1 by omega, show z53.toInt.toNat = (A k.toInt.toNat).2.1 by omega, show z59.toInt.toNat = (A k.toInt.toNat).2.2 by omega])
      have e60 : rN hp60 67 0 = rN hp 67 0 := E60 0 (by omega)
      refine xinc 66 (1) ⟨u281, _, rfl⟩ rfl rfl rfl (by decide) (by omega) (by omega) (fun z63 h63 => ?_)
      refine xgoto ⟨u281, _, rfl⟩ ?_
      exact ih (j - 1) (by omega) _ _ hH60 hP60 (hF.trans F60) (e60.trans he) (Arr_W (W := [(67, 999)]) (by decide) F60 hA) (by rw [show k.toInt.toNat + 1 = (k.toInt + 1).toNat by omega] at T1; rwa [show Int32.toInt z63 = k.toInt + 1 by omega]) (by omega) (by omega) (by omega)
