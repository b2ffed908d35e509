/-! ##### 17.i.dev ##### -/
section
/-! ===== ways by hand: back and forth; develop ===== -/
theorem P0_no {hp hp1 : amH} {c : Nat} (hP : P0 hp) (hF : bFr [(c, 999)] hp hp1) (h67 : c = 67 → Vf (rN hp1 67)) (h69 : c = 69 → Vf (rN hp1 69)) (h70 : c = 70 → Vf (rN hp1 70)) (h71 : ¬ c = 71) (h66 : ¬ c = 66) : P0 hp1 := by
  have e : ∀ k i, ¬ k = c → rN hp1 k i = rN hp k i := fun k i h => r_fr hF (bIn_ne h)
  refine ⟨?_, fun z => ?_, fun k hk hk2 => ?_, fun z => ?_⟩
  · by_cases h : c = 67
    · exact h67 h
    · exact Vf_eq (fun i _ => e 67 i (fun z => h z.symm)) hP.1
  · by_cases h : c = 70
    · exact h70 h
    · exact Vf_eq (fun i _ => e 70 i (fun z => h z.symm)) (hP.2.1 (by rw [← e 66 6 (fun z => h66 z.symm)]; exact z))
  · exact Vf_eq (fun i _ => e 71 _ (fun z => h71 z.symm)) (hP.2.2.1 k (by rw [← e 66 5 (fun z => h66 z.symm)]; exact hk) hk2)
  · by_cases h : c = 69
    · exact h69 h
    · exact Vf_eq (fun i _ => e 69 i (fun z => h z.symm)) (hP.2.2.2 (by rw [← e 69 0 (fun z => h z.symm)]; exact z))
theorem em_two {x k p : Int} (hx : 0 ≤ x) (hxp : x < p) (hk : 0 ≤ k) (hkp : k < p) : (x + k) % p = x + k ∨ (x + k) % p = x + k - p := by
  rcases Int.lt_or_le (x + k) p with h | h
  · exact Or.inl (Int.emod_eq_of_lt (by omega) h)
  · right
    rw [← Int.sub_emod_right, Int.emod_eq_of_lt (by omega) (by omega)]
theorem k_turn2 {d : Nat} {hp : amH} {R : xQ} {a b : Int32} (hH : bHk 84 bTT hp) (hP : P0 hp) (a1 : 0 ≤ a.toInt) (a2 : a.toInt < rN hp 67 0) (b1 : 0 ≤ b.toInt) (b2 : b.toInt < rN hp 67 0) (hR : ∀ z : Int32, (z.toInt = a.toInt + b.toInt ∨ z.toInt = a.toInt + b.toInt - rN hp 67 0) ∧ 0 ≤ z.toInt ∧ z.toInt < rN hp 67 0 → R (.inl (some (.int z))) hp) : xK (d + 1) 233 [.ref 66, .int a, .int b] hp R := by
  have q2 := hP.1.2.1
  refine k_turned hH hP a1 (by omega) b1 (by omega) (fun z ⟨h1, h2, h3⟩ => hR z ⟨?_, h2, h3⟩)
  rcases em_two a1 a2 b1 b2 with g | g
  · exact Or.inl (h1.trans g)
  · exact Or.inr (h1.trans g)
theorem u237 : bUp 0 am_m237.1 = true := by decide +kernel
theorem u274 : bUp 0 am_m274.1 = true := by decide +kernel
end
/-! ##### 17.j.arr ##### -/
section
/-! ===== ways by hand: the list of triples, as places; remove, swap, turn ===== -/
/-- the lists hold the triples A -/
noncomputable def Arr (hp : amH) (m : Nat) (A : Nat → Nat × Nat × Nat) : Prop := rN hp 66 12 = (m : Int) ∧ ∀ k, k < m → rN hp 72 k = ((A k).1 : Int) ∧ rN hp 73 k = ((A k).2.1 : Int) ∧ rN hp 74 k = ((A k).2.2 : Int) ∧ rN hp 75 k = b3 (A k).1 (A k).2.1 (A k).2.2
abbrev prA (A : Nat → Nat × Nat × Nat) (k u v : Nat) : Prop := pr (A k).1 (A k).2.1 (A k).2.2 u v
/-- the triples A are those of the third points t, of p points -/
noncomputable def Sys (t : Nat → Nat → Int) (p : Int) (m : Nat) (A : Nat → Nat × Nat × Nat) : Prop := m ≤ 35 ∧ (∀ k, k < m → (A k).1 < (A k).2.1 ∧ (A k).2.1 < (A k).2.2 ∧ ((A k).2.2 : Int) < p) ∧
  (∀ k u v, k < m → prA A k u v → t u v = ((A k).1 : Int) + (A k).2.1 + (A k).2.2 - u - v) ∧ (∀ k l u v, k < m → l < m → prA A k u v → prA A l u v → k = l) ∧
  (∀ u v, u < 15 → v < 15 → t u v = -1 ∨ ∃ k, k < m ∧ prA A k u v)
noncomputable def bPA : List (Nat × Nat) := [(72, 999), (73, 999), (74, 999), (75, 999), (66, 12)]
theorem Arr_W {W : List (Nat × Nat)} (hW : bDj W bPA = true) {hp hp1 : amH} (hF : bFr W hp hp1) {m : Nat} {A : Nat → Nat × Nat × Nat} (h : Arr hp m A) : Arr hp1 m A := by
  have e : ∀ c i, bIn bPA c i = true → rN hp1 c i = rN hp c i := fun c i hc => r_fr hF (bDj_s hW c i hc)
  refine ⟨(e 66 12 (by decide)).trans h.1, fun k hk => ?_⟩
  rw [e 72 k (bIn_all (by decide) _), e 73 k (bIn_all (by decide) _), e 74 k (bIn_all (by decide) _), e 75 k (bIn_all (by decide) _)]
  exact h.2 k hk
theorem pr_same {x y z a b c u v : Nat} (h1 : x < y) (h2 : y < z) (h3 : a < b) (h4 : b < c) (hp1 : pr x y z u v) (hp2 : pr a b c u v) (q : (x : Int) + y + z - u - v = (a : Int) + b + c - u - v) : x = a ∧ y = b := by
  obtain ⟨d, e1, e2⟩ := hp1
  obtain ⟨-, f1, f2⟩ := hp2
  rcases e1 with e1 | e1 | e1 <;> rcases e2 with e2 | e2 | e2 <;> first | exact absurd (e1.trans e2.symm) d | (rcases f1 with f1 | f1 | f1 <;> rcases f2 with f2 | f2 | f2 <;> omega)
theorem Lst_A {hp : amH} {m : Nat} (hV : Vf (rN hp 67)) (h : Lst hp m) : ∃ A, Arr hp m A ∧ Sys (tT hp) (rN hp 67 0) m A := by
  obtain ⟨h1, h2, h3, h4, h5⟩ := h
  have hp15 := hV.2.1
  have g : ∀ k, k < m → ∃ x y z : Nat, x < y ∧ y < z ∧ z < 15 ∧ tT hp x y = (z : Int) ∧ (rN hp 72 k).toNat = x ∧ (rN hp 73 k).toNat = y ∧ (rN hp 74 k).toNat = z ∧ rN hp 72 k = (x : Int) ∧ rN hp 73 k = (y : Int) ∧ rN hp 74 k = (z : Int) ∧ rN hp 75 k = b3 x y z := by
    intro k hk
    obtain ⟨x, y, z, g1, g2, g3, g4, g5, g6, g7, g8⟩ := h3 k hk
    exact ⟨x, y, z, g1, g2, g3, g4, by omega, by omega, by omega, g5, g6, g7, g8⟩
  have third : ∀ x y z u v : Nat, x < y → y < z → z < 15 → tT hp x y = (z : Int) → pr x y z u v → tT hp u v = (x : Int) + y + z - u - v := by
    intro x y z u v a b c d ⟨e1, e2, e3⟩
    obtain ⟨t1, t2, t3, t4, t5, t6, t7, t8, t9, t10, t11⟩ := Vf_t hV (by omega) (by omega) d
    rcases e2 with rfl | rfl | rfl <;> rcases e3 with rfl | rfl | rfl <;> first | exact absurd rfl e1 | omega
  refine ⟨fun k => ((rN hp 72 k).toNat, (rN hp 73 k).toNat, (rN hp 74 k).toNat), ⟨h1, fun k hk => ?_⟩, h2, fun k hk => ?_, fun k u v hk hp => ?_, fun k l u v hk hl hp1 hp2 => ?_, fun u v hu hv => ?_⟩
  · obtain ⟨x, y, z, g1, g2, g3, g4, g5, g6, g7, g8, g9, g10, g11⟩ := g k hk
    dsimp only
    rw [g5, g6, g7]
    exact ⟨g8, g9, g10, g11⟩
  · obtain ⟨x, y, z, g1, g2, g3, g4, g5, g6, g7, g8, g9, g10, g11⟩ := g k hk
    dsimp only
    rw [g5, g6, g7]
    exact ⟨g1, g2, (Vf_t hV (by omega) (by omega) g4).2.2.1⟩
  · obtain ⟨x, y, z, g1, g2, g3, g4, g5, g6, g7, g8, g9, g10, g11⟩ := g k hk
    dsimp only [prA] at hp ⊢
    rw [g5, g6, g7] at hp ⊢
    exact third x y z u v g1 g2 g3 g4 hp
  · obtain ⟨x, y, z, g1, g2, g3, g4, g5, g6, g7, g8, g9, g10, g11⟩ := g k hk
    obtain ⟨a, b, c, k1, k2, k3, k4, k5, k6, k7, k8, k9, k10, k11⟩ := g l hl
    dsimp only [prA] at hp1 hp2
    rw [g5, g6, g7] at hp1
    rw [k5, k6, k7] at hp2
    have q1 := third x y z u v g1 g2 g3 g4 hp1
    have q2 := third a b c u v k1 k2 k3 k4 hp2
    have hxa : x = a ∧ y = b := pr_same g1 g2 k1 k2 hp1 hp2 (q1.symm.trans q2)
    rcases Nat.lt_trichotomy k l with z1 | z1 | z1
    · have := h4 k l z1 hl
      omega
    · exact z1
    · have := h4 l k z1 hk
      omega
  · rcases Vf_m hV hu hv with q | ⟨w, hw, q⟩
    · exact Or.inl q
    · right
      obtain ⟨t1, t2, t3, t4, t5, t6, t7, t8, t9, t10, t11⟩ := Vf_t hV hu hv q
      have key : ∀ x y z : Nat, x < y → y < z → z < 15 → tT hp x y = (z : Int) → pr x y z u v → ∃ k, k < m ∧ pr (rN hp 72 k).toNat (rN hp 73 k).toNat (rN hp 74 k).toNat u v := by
        intro x y z a b c d e
        obtain ⟨k, k1, k2, k3, k4⟩ := h5 x y z a b c d
        refine ⟨k, k1, ?_⟩
        rw [k2, k3, k4]
        exact e
      rcases Nat.lt_or_ge u v with uv | uv
      · rcases Nat.lt_or_ge v w with vw | vw
        · exact key u v w uv vw hw q ⟨by omega, by omega, by omega⟩
        · rcases Nat.lt_or_ge u w with uw | uw
          · exact key u w v uw (by omega) hv t8 ⟨by omega, by omega, by omega⟩
          · exact key w u v (by omega) uv hv t10 ⟨by omega, by omega, by omega⟩
      · rcases Nat.lt_or_ge u w with uw | uw
        · exact key v u w (by omega) uw hw t7 ⟨by omega, by omega, by omega⟩
        · rcases Nat.lt_or_ge v w with vw | vw
          · exact key v w u vw (by omega) hu t9 ⟨by omega, by omega, by omega⟩
          · exact key w v u (by omega) (by omega) hu t11 ⟨by omega, by omega, by omega⟩
theorem Sys_x {t : Nat → Nat → Int} {p : Int} {m : Nat} {A : Nat → Nat × Nat × Nat} (h : Sys t p m A) {k : Nat} (hk : k < m) : t (A k).1 (A k).2.1 = ((A k).2.2 : Int) := by
  have := h.2.1 k hk
  rw [h.2.2.1 k _ _ hk ⟨by omega, Or.inl rfl, Or.inr (Or.inl rfl)⟩]
  omega
noncomputable def wNT : List (Nat × Nat) := (66, 7) :: bLT
theorem u257 : bUp 0 am_m257.1 = true := by decide +kernel
theorem u273 : bUp 0 am_m273.1 = true := by decide +kernel
theorem u279 : bUp 0 am_m279.1 = true := by decide +kernel
theorem u280 : bUp 0 am_m280.1 = true := by decide +kernel
theorem u281 : bUp 0 am_m281.1 = true := by decide +kernel
end
/-! ##### 17.k.swap ##### -/
section
/-! ===== ways by hand: swap, turn ===== -/
theorem k_swapped {d : Nat} {hp : amH} {R : xQ} {p a b : Int32} (hR : ∀ z : Int32, (z.toInt = if p.toInt = a.toInt then b.toInt else if p.toInt = b.toInt then a.toInt else p.toInt) → R (.inl (some (.int z))) hp) : xK d 280 [.int p, .int a, .int b] hp R := by
  refine xin (M := am_m280) rfl rfl rfl ?_
  refine xild 1 ⟨u280, _, rfl⟩ rfl rfl ?_
  refine xild 2 ⟨u280, _, rfl⟩ rfl rfl ?_
  refine xcmp_ne 5 ⟨u280, _, rfl⟩ rfl (fun c2 => ?_) (fun c2 => ?_)
  · refine xild 10 ⟨u280, _, rfl⟩ rfl rfl ?_
    refine xild 11 ⟨u280, _, rfl⟩ rfl rfl ?_
    refine xcmp_ne 14 ⟨u280, _, rfl⟩ rfl (fun c11 => ?_) (fun c11 => ?_)
    · refine xild 19 ⟨u280, _, rfl⟩ rfl rfl ?_
      exact xret ⟨u280, _, rfl⟩ rfl (hR _ (by rw [if_neg (by omega), if_neg (by omega)]))
    · refine xild 15 ⟨u280, _, rfl⟩ rfl rfl ?_
      refine xgoto ⟨u280, _, rfl⟩ ?_
      exact xret ⟨u280, _, rfl⟩ rfl (hR _ (by rw [if_neg (by omega), if_pos (by omega)]))
  · refine xild 6 ⟨u280, _, rfl⟩ rfl rfl ?_
    refine xgoto ⟨u280, _, rfl⟩ ?_
    exact xret ⟨u280, _, rfl⟩ rfl (hR _ (by rw [if_pos (by omega)]))
theorem xremG {M : amM} {pc a b d : Nat} {L : List (Option Value)} {st : List Value} {hp : amH} {Q : xQ} (q : Nat) {x y : Int32} (h : xI M pc .irem a b) (e : q = pc + 1) (hy : 0 < y.toInt) (hw : ∀ z : Int32, z.toInt = x.toInt.tmod y.toInt → xV d M q L (.int z :: st) hp Q) : xV d M pc L (.int y :: .int x :: st) hp Q := by
  have hy0 : ¬ y = 0 := fun z => by rw [z] at hy; exact absurd hy (by decide)
  refine xstep h (fun cl hl => ⟨cl, ?_, hl⟩) (hw (x - x / y * y) (rem_toInt _ _))
  subst e
  simp [amDo, amStep, amDiv, hy0]
noncomputable def bv (k p : Int) : Int := if k.tmod p < 0 then k.tmod p + p else k.tmod p
theorem bv_in {k p : Int} (hp : 0 < p) : 0 ≤ bv k p ∧ bv k p < p := by
  have h1 : (k.tmod p).natAbs < p.natAbs := by
    rw [Int.natAbs_tmod]
    exact Nat.mod_lt _ (by omega)
  unfold bv
  split <;> omega
theorem u234 : bUp 0 am_m234.1 = true := by decide +kernel
theorem k_by {d : Nat} {hp : amH} {R : xQ} {k : Int32} (hH : bHk 84 bTT hp) (hP : P0 hp) (hR : ∀ z : Int32, z.toInt = bv k.toInt (rN hp 67 0) → R (.inl (some (.int z))) hp) : xK (d + 1) 234 [.ref 66, .int k] hp R := by
  refine xin (M := am_m234) rfl rfl rfl ?_
  have q1 := hP.1.1
  have q2 := hP.1.2.1
  have hb := bv_in (k := k.toInt) (p := rN hp 67 0) (by omega)
  refine xild 1 ⟨u234, _, rfl⟩ rfl rfl ?_
  refine xald 2 ⟨u234, _, rfl⟩ rfl rfl ?_
  refine xcall 5 [.ref 66] [.int _] hH ⟨u234, _, rfl⟩ rfl rfl rfl rfl rfl (k_points hH (fun z2 h2 => ⟨_, rfl, ?_⟩))
  refine xremG 6 ⟨u234, _, rfl⟩ rfl (by omega) (fun z5 h5 => ?_)
  rw [h2] at h5
  have hlt : (k.toInt.tmod (rN hp 67 0)).natAbs < (rN hp 67 0).natAbs := by
    rw [Int.natAbs_tmod]
    exact Nat.mod_lt _ (by omega)
  refine xist 7 ⟨u234, _, rfl⟩ rfl rfl ?_
  refine xild 8 ⟨u234, _, rfl⟩ rfl rfl ?_
  refine xif_ge 11 ⟨u234, _, rfl⟩ rfl (fun c8 => ?_) (fun c8 => ?_)
  · refine xild 21 ⟨u234, _, rfl⟩ rfl rfl ?_
    exact xret ⟨u234, _, rfl⟩ rfl (hR _ (by unfold bv; rw [if_neg (by omega)]; exact h5))
  · refine xild 12 ⟨u234, _, rfl⟩ rfl rfl ?_
    refine xald 13 ⟨u234, _, rfl⟩ rfl rfl ?_
    refine xcall 16 [.ref 66] [.int _] hH ⟨u234, _, rfl⟩ rfl rfl rfl rfl rfl (k_points hH (fun z13 h13 => ⟨_, rfl, ?_⟩))
    refine xadd 17 _ ⟨u234, _, rfl⟩ rfl rfl (by omega) (by omega) (fun z16 h16 => ?_)
    refine xgoto ⟨u234, _, rfl⟩ ?_
    exact xret ⟨u234, _, rfl⟩ rfl (hR _ (by unfold bv; rw [if_pos (by omega)]; omega))
end
/-! ##### 17.l.swap ##### -/
section
/-! ===== ways by hand: swap and turn from outside ===== -/
theorem P0_68 {hp hp1 : amH} (hF : bFr [(68, 999)] hp hp1) (hP : P0 hp) : P0 hp1 := P0_no hP hF (fun z => absurd z (by decide)) (fun z => absurd z (by decide)) (fun z => absurd z (by decide)) (by decide) (by decide)
end
/-! ##### 17.m.comp ##### -/
section
/-! ===== ways by hand: completions ===== -/
theorem xaddw {M : amM} {pc a b d : Nat} {L : List (Option Value)} {st : List Value} {hp : amH} {Q : xQ} (q : Nat) {x y : Int32} (h : xI M pc .iadd a b) (e : q = pc + 1) (hw : ∀ z : Int32, xV d M q L (.int z :: st) hp Q) : xV d M pc L (.int y :: .int x :: st) hp Q := by
  refine xstep h (fun cl hl => ⟨cl, ?_, hl⟩) (hw (x + y))
  subst e
  simp [amDo, amStep, amII]
theorem u282 : bUp 0 am_m282.1 = true := by decide +kernel
theorem u283 : bUp 0 am_m283.1 = true := by decide +kernel
theorem u284 : bUp 0 am_m284.1 = true := by decide +kernel
theorem u285 : bUp 0 am_m285.1 = true := by decide +kernel
theorem l282 {d : Nat} {hp : amH} {R : xQ} (hH : bHk 84 bTT hp) (hP : P0 hp) {a b : Int32} (a1 : 0 ≤ a.toInt) (a2 : a.toInt < 15) (b1 : 0 ≤ b.toInt) (b2 : b.toInt < 15) (hR : ∀ z : Int32, R (.inl (some (.int z))) hp) : ∀ (j : Nat) (n c : Int32), c.toInt + (j : Int) = 15 → 0 ≤ c.toInt → 0 ≤ n.toInt → n.toInt ≤ c.toInt → xV (d + 4) am_m282 5 [some (.ref 66), some (.int a), some (.int b), some (.int n), some (.int c)] [] hp R := by
  have q1 := hP.1.1
  have q2 := hP.1.2.1
  intro j
  induction j using Nat.strongRecOn with
  | ind j ih =>
    intro n c hj c0 n0 n1
    refine xild2 7 ⟨u282, _, rfl⟩ rfl rfl ?_
    refine xald 8 ⟨u282, _, rfl⟩ rfl rfl ?_
    refine xcall 11 [.ref 66] [.int _] hH ⟨u282, _, rfl⟩ rfl rfl rfl rfl rfl (k_points hH (fun z8 h8 => ⟨_, rfl, ?_⟩))
    refine xcmp_ge 14 ⟨u282, _, rfl⟩ rfl (fun c11 => ?_) (fun c11 => ?_)
    · refine xild 52 ⟨u282, _, rfl⟩ rfl rfl ?_
      exact xret ⟨u282, _, rfl⟩ rfl (hR _)
    · refine xild 15 ⟨u282, _, rfl⟩ rfl rfl ?_
      refine xild2 17 ⟨u282, _, rfl⟩ rfl rfl ?_
      refine xild 18 ⟨u282, _, rfl⟩ rfl rfl ?_
      refine xcmp_eq 21 ⟨u282, _, rfl⟩ rfl (fun c18 => ?_) (fun c18 => ?_)
      · refine xcst 43 (0) ⟨u282, _, rfl⟩ rfl (by decide) (fun z42 h42 => ?_)
        refine xadd 44 _ ⟨u282, _, rfl⟩ rfl rfl (by omega) (by omega) (fun z43 h43 => ?_)
        refine xist 45 ⟨u282, _, rfl⟩ rfl rfl ?_
        refine xinc 48 (1) ⟨u282, _, rfl⟩ rfl rfl rfl (by decide) (by omega) (by omega) (fun z45 h45 => ?_)
        refine xgoto ⟨u282, _, rfl⟩ ?_
        exact ih (j - 1) (by omega) _ _ (by omega) (by omega) (by omega) (by omega)
      · refine xild2 23 ⟨u282, _, rfl⟩ rfl rfl ?_
        refine xild 24 ⟨u282, _, rfl⟩ rfl rfl ?_
        refine xcmp_eq 27 ⟨u282, _, rfl⟩ rfl (fun c24 => ?_) (fun c24 => ?_)
        · refine xcst 43 (0) ⟨u282, _, rfl⟩ rfl (by decide) (fun z42 h42 => ?_)
          refine xadd 44 _ ⟨u282, _, rfl⟩ rfl rfl (by omega) (by omega) (fun z43 h43 => ?_)
          refine xist 45 ⟨u282, _, rfl⟩ rfl rfl ?_
          refine xinc 48 (1) ⟨u282, _, rfl⟩ rfl rfl rfl (by decide) (by omega) (by omega) (fun z45 h45 => ?_)
          refine xgoto ⟨u282, _, rfl⟩ ?_
          exact ih (j - 1) (by omega) _ _ (by omega) (by omega) (by omega) (by omega)
        · refine xald 28 ⟨u282, _, rfl⟩ rfl rfl ?_
          refine xild 29 ⟨u282, _, rfl⟩ rfl rfl ?_
          refine xild 30 ⟨u282, _, rfl⟩ rfl rfl ?_
          refine xild2 32 ⟨u282, _, rfl⟩ rfl rfl ?_
          refine xcall 35 [.ref 66, .int _, .int _, .int _] [.int _] hH ⟨u282, _, rfl⟩ rfl rfl rfl rfl rfl (k_free hH (by omega) (by omega) (by omega) (by omega) (by omega) (by omega) (fun z32 h32 => ⟨_, rfl, ?_⟩))
          refine xif_eq 38 ⟨u282, _, rfl⟩ rfl (fun c35 => ?_) (fun c35 => ?_)
          · refine xcst 43 (0) ⟨u282, _, rfl⟩ rfl (by decide) (fun z42 h42 => ?_)
            refine xadd 44 _ ⟨u282, _, rfl⟩ rfl rfl (by omega) (by omega) (fun z43 h43 => ?_)
            refine xist 45 ⟨u282, _, rfl⟩ rfl rfl ?_
            refine xinc 48 (1) ⟨u282, _, rfl⟩ rfl rfl rfl (by decide) (by omega) (by omega) (fun z45 h45 => ?_)
            refine xgoto ⟨u282, _, rfl⟩ ?_
            exact ih (j - 1) (by omega) _ _ (by omega) (by omega) (by omega) (by omega)
          · refine xcst 39 (1) ⟨u282, _, rfl⟩ rfl (by decide) (fun z38 h38 => ?_)
            refine xgoto ⟨u282, _, rfl⟩ ?_
            refine xadd 44 _ ⟨u282, _, rfl⟩ rfl rfl (by omega) (by omega) (fun z43 h43 => ?_)
            refine xist 45 ⟨u282, _, rfl⟩ rfl rfl ?_
            refine xinc 48 (1) ⟨u282, _, rfl⟩ rfl rfl rfl (by decide) (by omega) (by omega) (fun z45 h45 => ?_)
            refine xgoto ⟨u282, _, rfl⟩ ?_
            exact ih (j - 1) (by omega) _ _ (by omega) (by omega) (by omega) (by omega)
theorem k_ways {d : Nat} {hp : amH} {R : xQ} {a b : Int32} (hH : bHk 84 bTT hp) (hP : P0 hp) (a1 : 0 ≤ a.toInt) (a2 : a.toInt < 15) (b1 : 0 ≤ b.toInt) (b2 : b.toInt < 15) (hR : ∀ z : Int32, R (.inl (some (.int z))) hp) : xK (d + 4) 282 [.ref 66, .int a, .int b] hp R := by
  refine xin (M := am_m282) rfl rfl rfl ?_
  refine xcst 1 (0) ⟨u282, _, rfl⟩ rfl (by decide) (fun z0 h0 => ?_)
  refine xist 2 ⟨u282, _, rfl⟩ rfl rfl ?_
  refine xcst 3 (0) ⟨u282, _, rfl⟩ rfl (by decide) (fun z2 h2 => ?_)
  refine xist2 5 ⟨u282, _, rfl⟩ rfl rfl ?_
  exact l282 hH hP a1 a2 b1 b2 hR 15 _ _ (by omega) (by omega) (by omega) (by omega)
/-- a pair's number, or none -/
noncomputable def Bst (hp : amH) (z : Int) : Prop := z = -1 ∨ ∃ a b : Nat, a < b ∧ (b : Int) < rN hp 67 0 ∧ z = 16 * (a : Int) + b
theorem l283b {d : Nat} {hp : amH} {R : xQ} (hH : bHk 84 bTT hp) (hP : P0 hp) {a : Int32} {aa : Int} (a0 : 0 ≤ a.toInt) (ha : a.toInt = aa) (hQ : ∀ (t l a1 : Int32) (v w : Option Value), Bst hp t.toInt → a1.toInt = aa + 1 → xV (d + 5) am_m283 6 [some (.ref 66), some (.int t), some (.int l), some (.int a1), v, w] [] hp R) : ∀ (j : Nat) (t l b : Int32) (v : Option Value), b.toInt + (j : Int) = 15 → a.toInt < b.toInt → Bst hp t.toInt → xV (d + 5) am_m283 19 [some (.ref 66), some (.int t), some (.int l), some (.int a), some (.int b), v] [] hp R := by
  have q1 := hP.1.1
  have q2 := hP.1.2.1
  intro j
  induction j using Nat.strongRecOn with
  | ind j ih =>
    intro t l b v hj b0 hb
    refine xild2 21 ⟨u283, _, rfl⟩ rfl rfl ?_
    refine xald 22 ⟨u283, _, rfl⟩ rfl rfl ?_
    refine xcall 25 [.ref 66] [.int _] hH ⟨u283, _, rfl⟩ rfl rfl rfl rfl rfl (k_points hH (fun z22 h22 => ⟨_, rfl, ?_⟩))
    refine xcmp_ge 28 ⟨u283, _, rfl⟩ rfl (fun c25 => ?_) (fun c25 => ?_)
    · refine xinc 85 (1) ⟨u283, _, rfl⟩ rfl rfl rfl (by decide) (by omega) (by omega) (fun z82 h82 => ?_)
      refine xgoto ⟨u283, _, rfl⟩ ?_
      exact hQ _ _ _ _ _ hb (by omega)
    · refine xald 29 ⟨u283, _, rfl⟩ rfl rfl ?_
      refine xild 30 ⟨u283, _, rfl⟩ rfl rfl ?_
      refine xild2 32 ⟨u283, _, rfl⟩ rfl rfl ?_
      refine xcall 35 [.ref 66, .int _, .int _] [] hH ⟨u283, _, rfl⟩ rfl rfl rfl rfl rfl (k_third hH (by omega) (by omega) (by omega) (by omega) (fun z32 h32 => ⟨_, rfl, ?_⟩))
      refine xcst 36 (-1) ⟨u283, _, rfl⟩ rfl (by decide) (fun z35 h35 => ?_)
      refine xcmp_eq 39 ⟨u283, _, rfl⟩ rfl (fun c36 => ?_) (fun c36 => ?_)
      · refine xald 43 ⟨u283, _, rfl⟩ rfl rfl ?_
        refine xild 44 ⟨u283, _, rfl⟩ rfl rfl ?_
        refine xild2 46 ⟨u283, _, rfl⟩ rfl rfl ?_
        refine xcall 49 [.ref 66, .int _, .int _] [] hH ⟨u283, _, rfl⟩ rfl rfl rfl rfl rfl (k_ways hH hP (by omega) (by omega) (by omega) (by omega) (fun z46 => ⟨_, rfl, ?_⟩))
        refine xist2 51 ⟨u283, _, rfl⟩ rfl rfl ?_
        refine xild 52 ⟨u283, _, rfl⟩ rfl rfl ?_
        refine xcst 53 (-1) ⟨u283, _, rfl⟩ rfl (by decide) (fun z52 h52 => ?_)
        refine xcmp_eq 56 ⟨u283, _, rfl⟩ rfl (fun c53 => ?_) (fun c53 => ?_)
        · refine xbip 67 (16) ⟨u283, _, rfl⟩ rfl (by decide) (fun z65 h65 => ?_)
          refine xild 68 ⟨u283, _, rfl⟩ rfl rfl ?_
          refine xmul 69 (16 * Int32.toInt a) ⟨u283, _, rfl⟩ rfl (by rw [h65]) (by omega) (by omega) (fun z68 h68 => ?_)
          refine xild2 71 ⟨u283, _, rfl⟩ rfl rfl ?_
          refine xadd 72 _ ⟨u283, _, rfl⟩ rfl rfl (by omega) (by omega) (fun z71 h71 => ?_)
          refine xist 73 ⟨u283, _, rfl⟩ rfl rfl ?_
          refine xild2 75 ⟨u283, _, rfl⟩ rfl rfl ?_
          refine xist 76 ⟨u283, _, rfl⟩ rfl rfl ?_
          refine xinc 79 (1) ⟨u283, _, rfl⟩ rfl rfl rfl (by decide) (by omega) (by omega) (fun z76 h76 => ?_)
          refine xgoto ⟨u283, _, rfl⟩ ?_
          exact ih (j - 1) (by omega) _ _ _ _ (by omega) (by omega) (Or.inr ⟨a.toInt.toNat, b.toInt.toNat, by omega, by omega, by omega⟩)
        · refine xild2 58 ⟨u283, _, rfl⟩ rfl rfl ?_
          refine xild 59 ⟨u283, _, rfl⟩ rfl rfl ?_
          refine xcmp_lt 62 ⟨u283, _, rfl⟩ rfl (fun c59 => ?_) (fun c59 => ?_)
          · refine xbip 67 (16) ⟨u283, _, rfl⟩ rfl (by decide) (fun z65 h65 => ?_)
            refine xild 68 ⟨u283, _, rfl⟩ rfl rfl ?_
            refine xmul 69 (16 * Int32.toInt a) ⟨u283, _, rfl⟩ rfl (by rw [h65]) (by omega) (by omega) (fun z68 h68 => ?_)
            refine xild2 71 ⟨u283, _, rfl⟩ rfl rfl ?_
            refine xadd 72 _ ⟨u283, _, rfl⟩ rfl rfl (by omega) (by omega) (fun z71 h71 => ?_)
            refine xist 73 ⟨u283, _, rfl⟩ rfl rfl ?_
            refine xild2 75 ⟨u283, _, rfl⟩ rfl rfl ?_
            refine xist 76 ⟨u283, _, rfl⟩ rfl rfl ?_
            refine xinc 79 (1) ⟨u283, _, rfl⟩ rfl rfl rfl (by decide) (by omega) (by omega) (fun z76 h76 => ?_)
            refine xgoto ⟨u283, _, rfl⟩ ?_
            exact ih (j - 1) (by omega) _ _ _ _ (by omega) (by omega) (Or.inr ⟨a.toInt.toNat, b.toInt.toNat, by omega, by omega, by omega⟩)
          · refine xgoto ⟨u283, _, rfl⟩ ?_
            refine xinc 79 (1) ⟨u283, _, rfl⟩ rfl rfl rfl (by decide) (by omega) (by omega) (fun z76 h76 => ?_)
            refine xgoto ⟨u283, _, rfl⟩ ?_
            exact ih (j - 1) (by omega) _ _ _ _ (by omega) (by omega) hb
      · refine xgoto ⟨u283, _, rfl⟩ ?_
        refine xinc 79 (1) ⟨u283, _, rfl⟩ rfl rfl rfl (by decide) (by omega) (by omega) (fun z76 h76 => ?_)
        refine xgoto ⟨u283, _, rfl⟩ ?_
        exact ih (j - 1) (by omega) _ _ _ _ (by omega) (by omega) hb
theorem l283a {d : Nat} {hp : amH} {R : xQ} (hH : bHk 84 bTT hp) (hP : P0 hp) (hR : ∀ z : Int32, Bst hp z.toInt → R (.inl (some (.int z))) hp) : ∀ (j : Nat) (t l a : Int32) (v w : Option Value), a.toInt + (j : Int) = 15 → 0 ≤ a.toInt → Bst hp t.toInt → xV (d + 5) am_m283 6 [some (.ref 66), some (.int t), some (.int l), some (.int a), v, w] [] hp R := by
  have q1 := hP.1.1
  have q2 := hP.1.2.1
  intro j
  induction j using Nat.strongRecOn with
  | ind j ih =>
    intro t l a v w hj a0 hb
    refine xild 7 ⟨u283, _, rfl⟩ rfl rfl ?_
    refine xald 8 ⟨u283, _, rfl⟩ rfl rfl ?_
    refine xcall 11 [.ref 66] [.int _] hH ⟨u283, _, rfl⟩ rfl rfl rfl rfl rfl (k_points hH (fun z8 h8 => ⟨_, rfl, ?_⟩))
    refine xcmp_ge 14 ⟨u283, _, rfl⟩ rfl (fun c11 => ?_) (fun c11 => ?_)
    · refine xild 89 ⟨u283, _, rfl⟩ rfl rfl ?_
      exact xret ⟨u283, _, rfl⟩ rfl (hR _ hb)
    · refine xild 15 ⟨u283, _, rfl⟩ rfl rfl ?_
      refine xcst 16 (1) ⟨u283, _, rfl⟩ rfl (by decide) (fun z15 h15 => ?_)
      refine xadd 17 _ ⟨u283, _, rfl⟩ rfl rfl (by omega) (by omega) (fun z16 h16 => ?_)
      refine xist2 19 ⟨u283, _, rfl⟩ rfl rfl ?_
      exact l283b hH hP (aa := a.toInt) a0 rfl (fun t1 l1 a1 v1 w1 k1 k2 => ih (j - 1) (by omega) _ _ _ _ _ (by omega) (by omega) k1) (14 - a.toInt).toNat _ _ _ _ (by omega) (by omega) hb
theorem k_tight {d : Nat} {hp : amH} {R : xQ} (hH : bHk 84 bTT hp) (hP : P0 hp) (hR : ∀ z : Int32, Bst hp z.toInt → R (.inl (some (.int z))) hp) : xK (d + 5) 283 [.ref 66] hp R := by
  refine xin (M := am_m283) rfl rfl rfl ?_
  refine xcst 1 (-1) ⟨u283, _, rfl⟩ rfl (by decide) (fun z0 h0 => ?_)
  refine xist 2 ⟨u283, _, rfl⟩ rfl rfl ?_
  refine xcst 3 (0) ⟨u283, _, rfl⟩ rfl (by decide) (fun z2 h2 => ?_)
  refine xist 4 ⟨u283, _, rfl⟩ rfl rfl ?_
  refine xcst 5 (0) ⟨u283, _, rfl⟩ rfl (by decide) (fun z4 h4 => ?_)
  refine xist 6 ⟨u283, _, rfl⟩ rfl rfl ?_
  refine xpad 2 ?_
  exact l283a hH hP hR 15 _ _ _ _ _ (by omega) (by omega) (Or.inl h0)
/-- how many pairs are uncovered -/
noncomputable def unc (hp : amH) : Nat := ((List.range 225).filter (fun s => decide (tT hp (s / 15) (s % 15) = -1))).length
theorem fl_lt {p q : Nat → Bool} : ∀ {L : List Nat}, (∀ s ∈ L, q s = true → p s = true) → (∃ s ∈ L, p s = true ∧ q s = false) → (L.filter q).length < (L.filter p).length
  | [], _, ⟨s, h, _⟩ => by cases h
  | x :: r, h, ⟨s, hs, h1, h2⟩ => by
    have le : ∀ {L : List Nat}, (∀ s ∈ L, q s = true → p s = true) → (L.filter q).length ≤ (L.filter p).length := by
      intro L
      induction L with
      | nil => intro _; exact Nat.le_refl _
      | cons y t ih =>
        intro hl
        have ih := ih (fun s hs => hl s (List.mem_cons_of_mem _ hs))
        have hy := hl y List.mem_cons_self
        simp only [List.filter_cons]
        cases e1 : q y
        · cases e2 : p y
          · simpa using ih
          · simp only [Bool.false_eq_true, if_false, if_true, List.length_cons]
            omega
        · rw [hy e1]
          simp only [if_true, List.length_cons]
          omega
    have hx := h x List.mem_cons_self
    have hr : ∀ s ∈ r, q s = true → p s = true := fun s hs => h s (List.mem_cons_of_mem _ hs)
    simp only [List.filter_cons]
    rcases List.mem_cons.mp hs with z | z
    · subst z
      rw [h1, h2]
      have := le hr
      simp only [Bool.false_eq_true, if_false, if_true, List.length_cons]
      omega
    · have := fl_lt hr ⟨s, z, h1, h2⟩
      cases e1 : q x
      · cases e2 : p x
        · simpa using this
        · simp only [Bool.false_eq_true, if_false, if_true, List.length_cons]
          omega
      · rw [hx e1]
        simp only [if_true, List.length_cons]
        omega
theorem unc_lt {hp hp1 : amH} {x y z : Nat} (hx : x < 15) (hy : y < 15) (hxy : ¬ x = y) (hf : tT hp x y = -1) {f : Nat → Nat → Int} (hfx : ¬ f x y = -1) (hfr : ∀ u v, pr x y z u v → tT hp u v = -1) (hT : ∀ u v, u < 15 → v < 15 → tT hp1 u v = if pr x y z u v then f u v else tT hp u v) : unc hp1 < unc hp := by
  unfold unc
  refine fl_lt (fun s hs h => ?_) ⟨15 * x + y, List.mem_range.mpr (by omega), ?_, ?_⟩
  · have hs := List.mem_range.mp hs
    have h := of_decide_eq_true h
    refine decide_eq_true ?_
    rw [hT _ _ (by omega) (by omega)] at h
    split at h
    · next e => exact hfr _ _ e
    · exact h
  · rw [show (15 * x + y) / 15 = x by omega, show (15 * x + y) % 15 = y by omega]
    exact decide_eq_true hf
  · rw [show (15 * x + y) / 15 = x by omega, show (15 * x + y) % 15 = y by omega]
    refine decide_eq_false ?_
    rw [hT x y hx hy, if_pos ⟨hxy, Or.inl rfl, Or.inr (Or.inl rfl)⟩]
    exact hfx
theorem unc_le (hp : amH) : unc hp ≤ 225 := by
  unfold unc
  have := List.length_filter_le (fun s => decide (tT hp (s / 15) (s % 15) = -1)) (List.range 225)
  rw [List.length_range] at this
  exact this
theorem unc_eq {hp hp1 : amH} (h : ∀ i, i < 229 → rN hp1 67 i = rN hp 67 i) : unc hp1 = unc hp := by
  unfold unc
  congr 1
  refine List.filter_congr (fun s hs => ?_)
  have hs := List.mem_range.mp hs
  unfold tT
  rw [h _ (by omega)]
theorem fr3_all {hp : amH} (hV : Vf (rN hp 67)) {x y z : Nat} (hx : x < 15) (hy : y < 15) (hz : z < 15) (hf : fr3 hp x y z) : ∀ u v, pr x y z u v → tT hp u v = -1 := by
  intro u v ⟨g1, g2, g3⟩
  obtain ⟨f1, f2, f3⟩ := hf
  have s1 := Vf_sym hV (a := x) (b := y) hx hy
  have s2 := Vf_sym hV (a := y) (b := z) hy hz
  have s3 := Vf_sym hV (a := x) (b := z) hx hz
  rcases g2 with rfl | rfl | rfl <;> rcases g3 with rfl | rfl | rfl <;> first | exact absurd rfl g1 | assumption | omega
theorem l284 {d : Nat} {hp0 : amH} {R : xQ} {t a b : Int32} (a0 : 0 ≤ a.toInt) (ab : a.toInt < b.toInt) (b1 : b.toInt < rN hp0 67 0) (hrec : (∀ hp1, bHk 84 bTT hp1 → P0 hp1 → unc hp1 < unc hp0 → ∀ R1 : xQ, (∀ (z : Int32) hp2, bHk 84 bTT hp2 → P0 hp2 → bFr [(67, 999)] hp1 hp2 → (∀ i, i < 229 → rN hp2 67 i = rN hp1 67 i) → R1 (.inl (some (.int z))) hp2) → xK (d + 5) 284 [.ref 66] hp1 R1)) (hR : (∀ (z : Int32) hp1, bHk 84 bTT hp1 → P0 hp1 → bFr [(67, 999)] hp0 hp1 → (∀ i, i < 229 → rN hp1 67 i = rN hp0 67 i) → R (.inl (some (.int z))) hp1)) :
    ∀ (j : Nat) (n c : Int32) (hp : amH), bHk 84 bTT hp → P0 hp → bFr [(67, 999)] hp0 hp → (∀ i, i < 229 → rN hp 67 i = rN hp0 67 i) → c.toInt + (j : Int) = 15 → 0 ≤ c.toInt → xV (d + 6) am_m284 28 [some (.ref 66), some (.int t), some (.int a), some (.int b), some (.int n), some (.int c)] [] hp R := by
  intro j
  induction j using Nat.strongRecOn with
  | ind j ih =>
    intro n c hp hH hP hF hE hj c0
    have q1 := hP.1.1
    have q2 := hP.1.2.1
    have e0 := hE 0 (by omega)
    refine xild2 30 ⟨u284, _, rfl⟩ rfl rfl ?_
    refine xald 31 ⟨u284, _, rfl⟩ rfl rfl ?_
    refine xcall 34 [.ref 66] [.int _] hH ⟨u284, _, rfl⟩ rfl rfl rfl rfl rfl (k_points hH (fun z31 h31 => ⟨_, rfl, ?_⟩))
    refine xcmp_ge 37 ⟨u284, _, rfl⟩ rfl (fun c34 => ?_) (fun c34 => ?_)
    · refine xild2 96 ⟨u284, _, rfl⟩ rfl rfl ?_
      exact xret ⟨u284, _, rfl⟩ rfl (hR _ hp hH hP hF hE)
    · refine xild2 39 ⟨u284, _, rfl⟩ rfl rfl ?_
      refine xild 40 ⟨u284, _, rfl⟩ rfl rfl ?_
      refine xcmp_eq 43 ⟨u284, _, rfl⟩ rfl (fun c40 => ?_) (fun c40 => ?_)
      · refine xinc 91 (1) ⟨u284, _, rfl⟩ rfl rfl rfl (by decide) (by omega) (by omega) (fun z88 h88 => ?_)
        refine xgoto ⟨u284, _, rfl⟩ ?_
        exact ih (j - 1) (by omega) _ _ _ hH hP hF hE (by omega) (by omega)
      · refine xild2 45 ⟨u284, _, rfl⟩ rfl rfl ?_
        refine xild 46 ⟨u284, _, rfl⟩ rfl rfl ?_
        refine xcmp_eq 49 ⟨u284, _, rfl⟩ rfl (fun c46 => ?_) (fun c46 => ?_)
        · refine xinc 91 (1) ⟨u284, _, rfl⟩ rfl rfl rfl (by decide) (by omega) (by omega) (fun z88 h88 => ?_)
          refine xgoto ⟨u284, _, rfl⟩ ?_
          exact ih (j - 1) (by omega) _ _ _ hH hP hF hE (by omega) (by omega)
        · refine xald 50 ⟨u284, _, rfl⟩ rfl rfl ?_
          refine xild 51 ⟨u284, _, rfl⟩ rfl rfl ?_
          refine xild 52 ⟨u284, _, rfl⟩ rfl rfl ?_
          refine xild2 54 ⟨u284, _, rfl⟩ rfl rfl ?_
          refine xcall 57 [.ref 66, .int _, .int _, .int _] [] hH ⟨u284, _, rfl⟩ rfl rfl rfl rfl rfl (k_free hH (by omega) (by omega) (by omega) (by omega) (by omega) (by omega) (fun z54 h54 => ⟨_, rfl, ?_⟩))
          refine xif_ne 60 ⟨u284, _, rfl⟩ rfl (fun c57 => ?_) (fun c57 => ?_)
          · refine xald 64 ⟨u284, _, rfl⟩ rfl rfl ?_
            refine xild 65 ⟨u284, _, rfl⟩ rfl rfl ?_
            refine xild 66 ⟨u284, _, rfl⟩ rfl rfl ?_
            refine xild2 68 ⟨u284, _, rfl⟩ rfl rfl ?_
            have ff : fr3 hp a.toInt.toNat b.toInt.toNat c.toInt.toNat := by rcases h54 with g | g <;> first | exact g.2 | omega
            have fa := fr3_all hP.1 (by omega) (by omega) (by omega) ff
            refine xcall 71 [.ref 66, .int _, .int _, .int _] [] hH ⟨u284, _, rfl⟩ rfl rfl rfl rfl rfl (k_put hH hP (by omega) (by omega) (by omega) (by omega) (by omega) (by omega) (by omega) (by omega) (by omega) (by rcases h54 with g | g <;> first | exact g.2 | omega) (fun hp68 hH68 hP68 F68 E68 T68 => ⟨_, rfl, ?_⟩))
            have e68 : rN hp68 67 0 = rN hp 67 0 := E68 0 (by omega)
            refine xild2 73 ⟨u284, _, rfl⟩ rfl rfl ?_
            refine xald 74 ⟨u284, _, rfl⟩ rfl rfl ?_
            refine xcall 77 [.ref 66] [.int _] hH68 ⟨u284, _, rfl⟩ rfl rfl rfl rfl rfl (hrec hp68 hH68 hP68 (by rw [← unc_eq hE]; exact unc_lt (by omega) (by omega) (by omega) ff.1 (f := fun u v => a.toInt + b.toInt + c.toInt - u - v) (by omega) fa T68) _ (fun z74 hp74 hH74 hP74 F74 E74 => ⟨_, rfl, ?_⟩))
            refine xaddw 78 ⟨u284, _, rfl⟩ rfl (fun z77 => ?_)
            refine xist2 80 ⟨u284, _, rfl⟩ rfl rfl ?_
            refine xald 81 ⟨u284, _, rfl⟩ rfl rfl ?_
            refine xild 82 ⟨u284, _, rfl⟩ rfl rfl ?_
            refine xild 83 ⟨u284, _, rfl⟩ rfl rfl ?_
            refine xild2 85 ⟨u284, _, rfl⟩ rfl rfl ?_
            refine xcall 88 [.ref 66, .int _, .int _, .int _] [] hH74 ⟨u284, _, rfl⟩ rfl rfl rfl rfl rfl (k_take hH74 hP74 (by omega) (by omega) (by omega) (by omega) (by
        rw [show tT hp74 a.toInt.toNat b.toInt.toNat = tT hp68 a.toInt.toNat b.toInt.toNat from E74 _ (by omega), T68 _ _ (by omega) (by omega), if_pos ⟨by omega, Or.inl rfl, Or.inr (Or.inl rfl)⟩]
        omega) (by omega) (fun hp85 hH85 hP85 F85 E85 T85 => ⟨_, rfl, ?_⟩))
            have e85 : rN hp85 67 0 = rN hp74 67 0 := E85 0 (by omega)
            have E99 : ∀ i, i < 229 → rN hp85 67 i = rN hp0 67 i := by
              intro i hi
              rcases Nat.lt_or_ge i 4 with z | z
              · rw [E85 i z, E74 i hi, E68 i z, hE i hi]
              · have e1 : i = 4 + 15 * ((i - 4) / 15) + (i - 4) % 15 := by omega
                have e2 := T85 ((i - 4) / 15) ((i - 4) % 15) (by omega) (by omega)
                have e3 := T68 ((i - 4) / 15) ((i - 4) % 15) (by omega) (by omega)
                have e4 : tT hp74 ((i - 4) / 15) ((i - 4) % 15) = tT hp68 ((i - 4) / 15) ((i - 4) % 15) := E74 _ (by omega)
                rw [← hE i hi]
                have g1 : rN hp85 67 i = tT hp85 ((i - 4) / 15) ((i - 4) % 15) := by unfold tT; rw [← e1]
                have g2 : rN hp 67 i = tT hp ((i - 4) / 15) ((i - 4) % 15) := by unfold tT; rw [← e1]
                rw [g1, g2, e2, e4, e3]
                split
                · next q => exact (fa _ _ q).symm
                · rfl
            refine xinc 91 (1) ⟨u284, _, rfl⟩ rfl rfl rfl (by decide) (by omega) (by omega) (fun z88 h88 => ?_)
            refine xgoto ⟨u284, _, rfl⟩ ?_
            exact ih (j - 1) (by omega) _ _ _ hH85 hP85 (hF.trans (F68.trans (F74.trans F85))) E99 (by omega) (by omega)
          · refine xgoto ⟨u284, _, rfl⟩ ?_
            refine xinc 91 (1) ⟨u284, _, rfl⟩ rfl rfl rfl (by decide) (by omega) (by omega) (fun z88 h88 => ?_)
            refine xgoto ⟨u284, _, rfl⟩ ?_
            exact ih (j - 1) (by omega) _ _ _ hH hP hF hE (by omega) (by omega)
theorem k_comp0 {d : Nat} {hp0 : amH} {R : xQ} (hH : bHk 84 bTT hp0) (hP : P0 hp0) (hrec : (∀ hp1, bHk 84 bTT hp1 → P0 hp1 → unc hp1 < unc hp0 → ∀ R1 : xQ, (∀ (z : Int32) hp2, bHk 84 bTT hp2 → P0 hp2 → bFr [(67, 999)] hp1 hp2 → (∀ i, i < 229 → rN hp2 67 i = rN hp1 67 i) → R1 (.inl (some (.int z))) hp2) → xK (d + 5) 284 [.ref 66] hp1 R1)) (hR : (∀ (z : Int32) hp1, bHk 84 bTT hp1 → P0 hp1 → bFr [(67, 999)] hp0 hp1 → (∀ i, i < 229 → rN hp1 67 i = rN hp0 67 i) → R (.inl (some (.int z))) hp1)) : xK (d + 6) 284 [.ref 66] hp0 R := by
  have q1 := hP.1.1
  have q2 := hP.1.2.1
  refine xin (M := am_m284) rfl rfl rfl ?_
  refine xald 1 ⟨u284, _, rfl⟩ rfl rfl ?_
  refine xcall 4 [.ref 66] [] hH ⟨u284, _, rfl⟩ rfl rfl rfl rfl rfl (k_tight hH hP (fun z1 h1 => ⟨_, rfl, ?_⟩))
  refine xist 5 ⟨u284, _, rfl⟩ rfl rfl ?_
  refine xild 6 ⟨u284, _, rfl⟩ rfl rfl ?_
  refine xcst 7 (-1) ⟨u284, _, rfl⟩ rfl (by decide) (fun z6 h6 => ?_)
  refine xcmp_ne 10 ⟨u284, _, rfl⟩ rfl (fun c7 => ?_) (fun c7 => ?_)
  · obtain ⟨x, y, hxy, hy, hz⟩ : ∃ x y : Nat, x < y ∧ (y : Int) < rN hp0 67 0 ∧ z1.toInt = 16 * (x : Int) + y := by
      rcases h1 with z | z
      · omega
      · exact z
    refine xild 13 ⟨u284, _, rfl⟩ rfl rfl ?_
    refine xbip 15 (16) ⟨u284, _, rfl⟩ rfl (by decide) (fun z13 h13 => ?_)
    refine xdiv 16 (Int32.toInt z1 / 16) ⟨u284, _, rfl⟩ rfl (by omega) (by omega) (by rw [h13]) (fun z15 h15 => ?_)
    refine xist 17 ⟨u284, _, rfl⟩ rfl rfl ?_
    refine xild 18 ⟨u284, _, rfl⟩ rfl rfl ?_
    refine xbip 20 (16) ⟨u284, _, rfl⟩ rfl (by decide) (fun z18 h18 => ?_)
    refine xrem 21 (Int32.toInt z1 % 16) ⟨u284, _, rfl⟩ rfl (by omega) (by omega) (by rw [h18]) (fun z20 h20 => ?_)
    refine xist 22 ⟨u284, _, rfl⟩ rfl rfl ?_
    refine xcst 23 (0) ⟨u284, _, rfl⟩ rfl (by decide) (fun z22 h22 => ?_)
    refine xist2 25 ⟨u284, _, rfl⟩ rfl rfl ?_
    refine xcst 26 (0) ⟨u284, _, rfl⟩ rfl (by decide) (fun z25 h25 => ?_)
    refine xist2 28 ⟨u284, _, rfl⟩ rfl rfl ?_
    exact l284 (by omega) (by omega) (by omega) hrec hR 15 _ _ hp0 hH hP (bFr.refl _ _) (fun i _ => rfl) (by omega) (by omega)
  · refine xcst 11 (1) ⟨u284, _, rfl⟩ rfl (by decide) (fun z10 h10 => ?_)
    exact xret ⟨u284, _, rfl⟩ rfl (hR _ hp0 hH hP (bFr.refl _ _) (fun i _ => rfl))
theorem k_comp : ∀ (D : Nat) {hp0 : amH} {R : xQ}, bHk 84 bTT hp0 → P0 hp0 → unc hp0 ≤ D → (∀ (z : Int32) hp1, bHk 84 bTT hp1 → P0 hp1 → bFr [(67, 999)] hp0 hp1 → (∀ i, i < 229 → rN hp1 67 i = rN hp0 67 i) → R (.inl (some (.int z))) hp1) → xK (D + 6) 284 [.ref 66] hp0 R
  | 0, hp0, R, hH, hP, hu, hR => k_comp0 hH hP (fun hp1 _ _ h => by omega) hR
  | D + 1, hp0, R, hH, hP, hu, hR => k_comp0 (d := D + 1) hH hP (fun hp1 h1 h2 h3 R1 h4 => k_comp D h1 h2 (by omega) h4) hR
theorem k_unm {d : Nat} {hp : amH} {R : xQ} (hH : bHk 84 bTT hp) (hP : P0 hp) (hR : ∀ (z : Int32) hp1, bHk 84 bTT hp1 → P0 hp1 → bFr [(66, 12), (72, 999), (73, 999), (74, 999), (75, 999)] hp hp1 → R (.inl (some (.int z))) hp1) : xK (d + 3) 215 [.ref 66] hp R :=
  xsem1 (bQ6_s bf_9 (List.mem_of_getElem? (i := 124) rfl)) (Nat.le_add_left 3 d) hH hP ⟨a66, trivial⟩ (noF hp) rfl rfl (fun z hp1 h1 h2 h3 _ _ => hR z hp1 h1 h2 h3)
end
/-! ##### 17.n.train ##### -/
section
/-! ===== ways by hand: trains: codes, next ===== -/
theorem u346 : bUp 0 am_m346.1 = true := by decide +kernel
theorem u347 : bUp 0 am_m347.1 = true := by decide +kernel
theorem k_max {d : Nat} {hp : amH} {R : xQ} {x y : Int32} (hR : ∀ z : Int32, z.toInt = max x.toInt y.toInt → R (.inl (some (.int z))) hp) : xK d 346 [.int x, .int y] hp R := by
  refine xin (M := am_m346) rfl rfl rfl ?_
  refine xild 1 ⟨u346, _, rfl⟩ rfl rfl ?_
  refine xild 2 ⟨u346, _, rfl⟩ rfl rfl ?_
  refine xcmp_lt 5 ⟨u346, _, rfl⟩ rfl (fun c2 => ?_) (fun c2 => ?_)
  · refine xild 10 ⟨u346, _, rfl⟩ rfl rfl ?_
    exact xret ⟨u346, _, rfl⟩ rfl (hR _ (by omega))
  · refine xild 6 ⟨u346, _, rfl⟩ rfl rfl ?_
    refine xgoto ⟨u346, _, rfl⟩ ?_
    exact xret ⟨u346, _, rfl⟩ rfl (hR _ (by omega))
theorem k_min {d : Nat} {hp : amH} {R : xQ} {x y : Int32} (hR : ∀ z : Int32, z.toInt = min x.toInt y.toInt → R (.inl (some (.int z))) hp) : xK d 347 [.int x, .int y] hp R := by
  refine xin (M := am_m347) rfl rfl rfl ?_
  refine xild 1 ⟨u347, _, rfl⟩ rfl rfl ?_
  refine xild 2 ⟨u347, _, rfl⟩ rfl rfl ?_
  refine xcmp_gt 5 ⟨u347, _, rfl⟩ rfl (fun c2 => ?_) (fun c2 => ?_)
  · refine xild 10 ⟨u347, _, rfl⟩ rfl rfl ?_
    exact xret ⟨u347, _, rfl⟩ rfl (hR _ (by omega))
  · refine xild 6 ⟨u347, _, rfl⟩ rfl rfl ?_
    refine xgoto ⟨u347, _, rfl⟩ ?_
    exact xret ⟨u347, _, rfl⟩ rfl (hR _ (by omega))
noncomputable def cdO (a b c : Int) : Int := 256 * max a (max b c) + 16 * (a + b + c - max a (max b c) - min a (min b c)) + min a (min b c)
theorem u309 : bUp 0 am_m309.1 = true := by decide +kernel
theorem u310 : bUp 0 am_m310.1 = true := by decide +kernel
theorem u311 : bUp 0 am_m311.1 = true := by decide +kernel
theorem u312 : bUp 0 am_m312.1 = true := by decide +kernel
theorem u313 : bUp 0 am_m313.1 = true := by decide +kernel
theorem u314 : bUp 0 am_m314.1 = true := by decide +kernel
theorem u315 : bUp 0 am_m315.1 = true := by decide +kernel
theorem u316 : bUp 0 am_m316.1 = true := by decide +kernel
theorem u317 : bUp 0 am_m317.1 = true := by decide +kernel
theorem u318 : bUp 0 am_m318.1 = true := by decide +kernel
theorem u319 : bUp 0 am_m319.1 = true := by decide +kernel
theorem u320 : bUp 0 am_m320.1 = true := by decide +kernel
theorem u262 : bUp 0 am_m262.1 = true := by decide +kernel
theorem u214 : bUp 0 am_m214.1 = true := by decide +kernel
theorem u215 : bUp 0 am_m215.1 = true := by decide +kernel
theorem k_code {d : Nat} {hp : amH} {R : xQ} {a b c : Int32} (hH : bHk 84 bTT hp) (a1 : 0 ≤ a.toInt) (a2 : a.toInt < 15) (b1 : 0 ≤ b.toInt) (b2 : b.toInt < 15) (c1 : 0 ≤ c.toInt) (c2 : c.toInt < 15) (hR : ∀ z : Int32, z.toInt = cdO a.toInt b.toInt c.toInt → R (.inl (some (.int z))) hp) : xK (d + 1) 310 [.int a, .int b, .int c] hp R := by
  refine xin (M := am_m310) rfl rfl rfl ?_
  refine xild 1 ⟨u310, _, rfl⟩ rfl rfl ?_
  refine xild 2 ⟨u310, _, rfl⟩ rfl rfl ?_
  refine xild 3 ⟨u310, _, rfl⟩ rfl rfl ?_
  refine xcallS 6 [.int _, .int _] [.int _] hH ⟨u310, _, rfl⟩ rfl rfl rfl rfl rfl (k_max (fun z3 h3 => ⟨_, rfl, ?_⟩))
  refine xcallS 9 [.int _, .int _] [] hH ⟨u310, _, rfl⟩ rfl rfl rfl rfl rfl (k_max (fun z6 h6 => ⟨_, rfl, ?_⟩))
  refine xist 10 ⟨u310, _, rfl⟩ rfl rfl ?_
  refine xild 11 ⟨u310, _, rfl⟩ rfl rfl ?_
  refine xild 12 ⟨u310, _, rfl⟩ rfl rfl ?_
  refine xild 13 ⟨u310, _, rfl⟩ rfl rfl ?_
  refine xcallS 16 [.int _, .int _] [.int _] hH ⟨u310, _, rfl⟩ rfl rfl rfl rfl rfl (k_min (fun z13 h13 => ⟨_, rfl, ?_⟩))
  refine xcallS 19 [.int _, .int _] [] hH ⟨u310, _, rfl⟩ rfl rfl rfl rfl rfl (k_min (fun z16 h16 => ⟨_, rfl, ?_⟩))
  refine xist2 21 ⟨u310, _, rfl⟩ rfl rfl ?_
  refine xsip 24 (256) ⟨u310, _, rfl⟩ rfl (by decide) (fun z21 h21 => ?_)
  refine xild 25 ⟨u310, _, rfl⟩ rfl rfl ?_
  refine xmul 26 (256 * Int32.toInt z6) ⟨u310, _, rfl⟩ rfl (by rw [h21]) (by omega) (by omega) (fun z25 h25 => ?_)
  refine xbip 28 (16) ⟨u310, _, rfl⟩ rfl (by decide) (fun z26 h26 => ?_)
  refine xild 29 ⟨u310, _, rfl⟩ rfl rfl ?_
  refine xild 30 ⟨u310, _, rfl⟩ rfl rfl ?_
  refine xadd 31 _ ⟨u310, _, rfl⟩ rfl rfl (by omega) (by omega) (fun z30 h30 => ?_)
  refine xild 32 ⟨u310, _, rfl⟩ rfl rfl ?_
  refine xadd 33 _ ⟨u310, _, rfl⟩ rfl rfl (by omega) (by omega) (fun z32 h32 => ?_)
  refine xild 34 ⟨u310, _, rfl⟩ rfl rfl ?_
  refine xsub 35 _ ⟨u310, _, rfl⟩ rfl rfl (by omega) (by omega) (fun z34 h34 => ?_)
  refine xild2 37 ⟨u310, _, rfl⟩ rfl rfl ?_
  refine xsub 38 _ ⟨u310, _, rfl⟩ rfl rfl (by omega) (by omega) (fun z37 h37 => ?_)
  refine xmul 39 (16 * Int32.toInt z37) ⟨u310, _, rfl⟩ rfl (by rw [h26]) (by omega) (by omega) (fun z38 h38 => ?_)
  refine xadd 40 _ ⟨u310, _, rfl⟩ rfl rfl (by omega) (by omega) (fun z39 h39 => ?_)
  refine xild2 42 ⟨u310, _, rfl⟩ rfl rfl ?_
  refine xadd 43 _ ⟨u310, _, rfl⟩ rfl rfl (by omega) (by omega) (fun z42 h42 => ?_)
  exact xret ⟨u310, _, rfl⟩ rfl (hR _ (by unfold cdO; rw [← h3, ← h13, ← h6, ← h16]; omega))
noncomputable def Cd (p c : Int) : Prop := ∃ x y z : Nat, z < y ∧ y < x ∧ (x : Int) < p ∧ c = 256 * (x : Int) + 16 * y + z
theorem cdO_Cd {p a b c : Int} (a0 : 0 ≤ a) (b0 : 0 ≤ b) (c0 : 0 ≤ c) (ap : a < p) (bp : b < p) (cp : c < p) (hab : ¬ a = b) (hbc : ¬ b = c) (hac : ¬ a = c) : Cd p (cdO a b c) := by
  unfold cdO
  exact ⟨(max a (max b c)).toNat, (a + b + c - max a (max b c) - min a (min b c)).toNat, (min a (min b c)).toNat, by omega, by omega, by omega, by omega⟩
/-- every pair is covered -/
noncomputable def Wh (hp : amH) : Prop := ∀ u v : Nat, ¬ u = v → (u : Int) < rN hp 67 0 → (v : Int) < rN hp 67 0 → 0 ≤ tT hp u v
noncomputable def nx (hp : amH) (c : Int) : Int := if tT hp (c / 256).toNat (c / 16 % 16).toNat = c % 16 then c else cdO (tT hp (c / 16 % 16).toNat (c % 16).toNat) (tT hp (c / 256).toNat (c % 16).toNat) (tT hp (c / 256).toNat (c / 16 % 16).toNat)
theorem Wh_t {hp : amH} (hV : Vf (rN hp 67)) (hW : Wh hp) {u v : Nat} (h : ¬ u = v) (hu : (u : Int) < rN hp 67 0) (hv : (v : Int) < rN hp 67 0) : ∃ w : Nat, (w : Int) < rN hp 67 0 ∧ tT hp u v = (w : Int) ∧ tT hp v u = (w : Int) ∧ tT hp u w = (v : Int) ∧ tT hp v w = (u : Int) := by
  have h15 := hV.2.1
  have h0 := hW u v h hu hv
  rcases Vf_m hV (a := u) (b := v) (by omega) (by omega) with g | ⟨w, hw, g⟩
  · omega
  · obtain ⟨t1, t2, t3, t4, t5, t6, t7, t8, t9, t10, t11⟩ := Vf_t hV (by omega) (by omega) g
    exact ⟨w, t3, g, t7, t8, t9⟩
theorem nx_Cd {hp : amH} (hV : Vf (rN hp 67)) (hW : Wh hp) {c : Int} (hc : Cd (rN hp 67 0) c) : Cd (rN hp 67 0) (nx hp c) := by
  obtain ⟨x, y, z, h1, h2, h3, rfl⟩ := hc
  have h15 := hV.2.1
  unfold nx
  rw [show ((256 * (x : Int) + 16 * y + z) / 256).toNat = x by omega, show ((256 * (x : Int) + 16 * y + z) / 16 % 16).toNat = y by omega, show (256 * (x : Int) + 16 * y + z) % 16 = z by omega, show ((z : Nat) : Int).toNat = z by omega]
  split
  · exact ⟨x, y, z, h1, h2, h3, rfl⟩
  · obtain ⟨a, a1, a2, a3, a4, a5⟩ := Wh_t hV hW (u := y) (v := z) (by omega) (by omega) (by omega)
    obtain ⟨b, b1, b2, b3, b4, b5⟩ := Wh_t hV hW (u := x) (v := z) (by omega) (by omega) (by omega)
    obtain ⟨e, e1, e2, e3, e4, e5⟩ := Wh_t hV hW (u := x) (v := y) (by omega) (by omega) (by omega)
    rw [a2, b2, e2]
    refine cdO_Cd (by omega) (by omega) (by omega) a1 b1 e1 (fun q => ?_) (fun q => ?_) (fun q => ?_)
    · have q : a = b := by omega
      subst q
      omega
    · have q : b = e := by omega
      subst q
      omega
    · have q : a = e := by omega
      subst q
      omega
theorem k_next {d : Nat} {hp : amH} {R : xQ} {c : Int32} (hH : bHk 84 bTT hp) (hP : P0 hp) (hW : Wh hp) (hc : Cd (rN hp 67 0) c.toInt) (hR : ∀ z : Int32, z.toInt = nx hp c.toInt → R (.inl (some (.int z))) hp) : xK (d + 2) 311 [.ref 66, .int c] hp R := by
  refine xin (M := am_m311) rfl rfl rfl ?_
  have q2 := hP.1.2.1
  have hc2 := hc
  obtain ⟨x, y, z, z1, z2, z3, hc⟩ := hc
  refine xild 1 ⟨u311, _, rfl⟩ rfl rfl ?_
  refine xsip 4 (256) ⟨u311, _, rfl⟩ rfl (by decide) (fun z1 h1 => ?_)
  refine xdiv 5 (Int32.toInt c / 256) ⟨u311, _, rfl⟩ rfl (by omega) (by omega) (by rw [h1]) (fun z4 h4 => ?_)
  refine xist 6 ⟨u311, _, rfl⟩ rfl rfl ?_
  refine xild 7 ⟨u311, _, rfl⟩ rfl rfl ?_
  refine xbip 9 (16) ⟨u311, _, rfl⟩ rfl (by decide) (fun z7 h7 => ?_)
  refine xdiv 10 (Int32.toInt c / 16) ⟨u311, _, rfl⟩ rfl (by omega) (by omega) (by rw [h7]) (fun z9 h9 => ?_)
  refine xbip 12 (16) ⟨u311, _, rfl⟩ rfl (by decide) (fun z10 h10 => ?_)
  refine xrem 13 (Int32.toInt z9 % 16) ⟨u311, _, rfl⟩ rfl (by omega) (by omega) (by rw [h10]) (fun z12 h12 => ?_)
  refine xist 14 ⟨u311, _, rfl⟩ rfl rfl ?_
  refine xild 15 ⟨u311, _, rfl⟩ rfl rfl ?_
  refine xbip 17 (16) ⟨u311, _, rfl⟩ rfl (by decide) (fun z15 h15 => ?_)
  refine xrem 18 (Int32.toInt c % 16) ⟨u311, _, rfl⟩ rfl (by omega) (by omega) (by rw [h15]) (fun z17 h17 => ?_)
  refine xist2 20 ⟨u311, _, rfl⟩ rfl rfl ?_
  have ex : z4.toInt = (x : Int) := by omega
  have ey : z12.toInt = (y : Int) := by omega
  have ez : z17.toInt = (z : Int) := by omega
  have nxe : nx hp c.toInt = if tT hp x y = z then c.toInt else cdO (tT hp y z) (tT hp x z) (tT hp x y) := by
    unfold nx
    rw [show (c.toInt / 256).toNat = x by omega, show (c.toInt / 16 % 16).toNat = y by omega, show c.toInt % 16 = z by omega, show ((z : Nat) : Int).toNat = z by omega]
  refine xald 21 ⟨u311, _, rfl⟩ rfl rfl ?_
  refine xild 22 ⟨u311, _, rfl⟩ rfl rfl ?_
  refine xild 23 ⟨u311, _, rfl⟩ rfl rfl ?_
  refine xcall 26 [.ref 66, .int _, .int _] [] hH ⟨u311, _, rfl⟩ rfl rfl rfl rfl rfl (k_third hH (by omega) (by omega) (by omega) (by omega) (fun z23 h23 => ⟨_, rfl, ?_⟩))
  rw [show z4.toInt.toNat = x by omega, show z12.toInt.toNat = y by omega] at h23
  refine xild2 28 ⟨u311, _, rfl⟩ rfl rfl ?_
  refine xcmp_ne 31 ⟨u311, _, rfl⟩ rfl (fun c28 => ?_) (fun c28 => ?_)
  · refine xald 34 ⟨u311, _, rfl⟩ rfl rfl ?_
    refine xild 35 ⟨u311, _, rfl⟩ rfl rfl ?_
    refine xild2 37 ⟨u311, _, rfl⟩ rfl rfl ?_
    refine xcall 40 [.ref 66, .int _, .int _] [] hH ⟨u311, _, rfl⟩ rfl rfl rfl rfl rfl (k_third hH (by omega) (by omega) (by omega) (by omega) (fun z37 h37 => ⟨_, rfl, ?_⟩))
    rw [show z12.toInt.toNat = y by omega, show z17.toInt.toNat = z by omega] at h37
    obtain ⟨w1, a1, a2, -⟩ := Wh_t hP.1 hW (u := y) (v := z) (by omega) (by omega) (by omega)
    refine xald 41 ⟨u311, _, rfl⟩ rfl rfl ?_
    refine xild 42 ⟨u311, _, rfl⟩ rfl rfl ?_
    refine xild2 44 ⟨u311, _, rfl⟩ rfl rfl ?_
    refine xcall 47 [.ref 66, .int _, .int _] [.int _] hH ⟨u311, _, rfl⟩ rfl rfl rfl rfl rfl (k_third hH (by omega) (by omega) (by omega) (by omega) (fun z44 h44 => ⟨_, rfl, ?_⟩))
    rw [show z4.toInt.toNat = x by omega, show z17.toInt.toNat = z by omega] at h44
    obtain ⟨w2, b1, b2, -⟩ := Wh_t hP.1 hW (u := x) (v := z) (by omega) (by omega) (by omega)
    refine xald 48 ⟨u311, _, rfl⟩ rfl rfl ?_
    refine xild 49 ⟨u311, _, rfl⟩ rfl rfl ?_
    refine xild 50 ⟨u311, _, rfl⟩ rfl rfl ?_
    refine xcall 53 [.ref 66, .int _, .int _] [.int _, .int _] hH ⟨u311, _, rfl⟩ rfl rfl rfl rfl rfl (k_third hH (by omega) (by omega) (by omega) (by omega) (fun z50 h50 => ⟨_, rfl, ?_⟩))
    rw [show z4.toInt.toNat = x by omega, show z12.toInt.toNat = y by omega] at h50
    obtain ⟨w3, d1, d2, -⟩ := Wh_t hP.1 hW (u := x) (v := y) (by omega) (by omega) (by omega)
    refine xcallS 56 [.int _, .int _, .int _] [] hH ⟨u311, _, rfl⟩ rfl rfl rfl rfl rfl (k_code hH (by omega) (by omega) (by omega) (by omega) (by omega) (by omega) (fun z53 h53 => ⟨_, rfl, ?_⟩))
    exact xret ⟨u311, _, rfl⟩ rfl (hR _ (by rw [nxe, if_neg (by omega), h53, h37, h44, h50]))
  · refine xild 32 ⟨u311, _, rfl⟩ rfl rfl ?_
    exact xret ⟨u311, _, rfl⟩ rfl (hR _ (by rw [nxe, if_pos (by omega)]))
end
