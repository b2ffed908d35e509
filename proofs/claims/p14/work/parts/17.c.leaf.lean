/-! ##### 17.c.leaf ##### -/
section
/-! ===== ways by hand: the reference's leaves ===== -/
noncomputable def tT (hp : amH) (u v : Nat) : Int := rN hp 67 (4 + 15 * u + v)
abbrev pr (x y z u v : Nat) : Prop := ¬ u = v ∧ (u = x ∨ u = y ∨ u = z) ∧ (v = x ∨ v = y ∨ v = z)
theorem k_points {d : Nat} {hp : amH} {R : xQ} (hH : bHk 84 bTT hp) (hR : ∀ z : Int32, z.toInt = rN hp 67 0 → R (.inl (some (.int z))) hp) : xK d 203 [.ref 66] hp R := by
  obtain ⟨w, hw, hr⟩ := r_mW hH
  exact ⟨am_m203, rfl, 6, .inl (some (.int (w.getD 0 0))), hp, m_points hw 0 d 0 0, hR _ (hr 0 (by omega)).symm⟩
theorem k_third {d : Nat} {hp : amH} {R : xQ} {a b : Int32} (hH : bHk 84 bTT hp) (a1 : 0 ≤ a.toInt) (a2 : a.toInt < 15) (b1 : 0 ≤ b.toInt) (b2 : b.toInt < 15) (hR : ∀ z : Int32, z.toInt = tT hp a.toInt.toNat b.toInt.toNat → R (.inl (some (.int z))) hp) : xK d 204 [.ref 66, .int a, .int b] hp R := by
  obtain ⟨w, hw, hr⟩ := r_mW hH
  exact ⟨am_m204, rfl, 12, .inl (some (.int (w.getD (4 + 15 * a.toInt.toNat + b.toInt.toNat) 0))), hp, m_thirdOf hw (x := a.toInt.toNat) (y := b.toInt.toNat) (by omega) (by omega) (by omega) (by omega) 0 d 0 0, hR _ (hr _ (by omega)).symm⟩
noncomputable def cv (hp : amH) (u v : Nat) : Int := if tT hp u v = -1 then 0 else 1
theorem u208 : bUp 0 am_m208.1 = true := by decide +kernel
theorem u209 : bUp 0 am_m209.1 = true := by decide +kernel
theorem u210 : bUp 0 am_m210.1 = true := by decide +kernel
theorem k_cov {d : Nat} {hp : amH} {R : xQ} {a b : Int32} (hH : bHk 84 bTT hp) (a1 : 0 ≤ a.toInt) (a2 : a.toInt < 15) (b1 : 0 ≤ b.toInt) (b2 : b.toInt < 15) (hR : ∀ z : Int32, z.toInt = cv hp a.toInt.toNat b.toInt.toNat → R (.inl (some (.int z))) hp) : xK (d + 1) 208 [.ref 66, .int a, .int b] hp R := by
  refine xin (M := am_m208) rfl rfl rfl ?_
  unfold cv at hR
  refine xald 1 ⟨u208, _, rfl⟩ rfl rfl ?_
  refine xild 2 ⟨u208, _, rfl⟩ rfl rfl ?_
  refine xild 3 ⟨u208, _, rfl⟩ rfl rfl ?_
  refine xcall 6 [.ref 66, .int _, .int _] [] hH ⟨u208, _, rfl⟩ rfl rfl rfl rfl rfl (k_third hH (by omega) (by omega) (by omega) (by omega) (fun z3 h3 => ⟨_, rfl, ?_⟩))
  refine xcst 7 (-1) ⟨u208, _, rfl⟩ rfl (by decide) (fun z6 h6 => ?_)
  refine xcmp_ne 10 ⟨u208, _, rfl⟩ rfl (fun c7 => ?_) (fun c7 => ?_)
  · refine xcst 15 (1) ⟨u208, _, rfl⟩ rfl (by decide) (fun z14 h14 => ?_)
    exact xret ⟨u208, _, rfl⟩ rfl (hR _ (by rw [if_neg (by omega)]; exact h14))
  · refine xcst 11 (0) ⟨u208, _, rfl⟩ rfl (by decide) (fun z10 h10 => ?_)
    refine xgoto ⟨u208, _, rfl⟩ ?_
    exact xret ⟨u208, _, rfl⟩ rfl (hR _ (by rw [if_pos (by omega)]; exact h10))
theorem cv_01 (hp : amH) (u v : Nat) : 0 ≤ cv hp u v ∧ cv hp u v ≤ 1 := by
  unfold cv
  split <;> omega
theorem k_covin {d : Nat} {hp : amH} {R : xQ} {a b c : Int32} (hH : bHk 84 bTT hp) (a1 : 0 ≤ a.toInt) (a2 : a.toInt < 15) (b1 : 0 ≤ b.toInt) (b2 : b.toInt < 15) (c1 : 0 ≤ c.toInt) (c2 : c.toInt < 15) (hR : ∀ z : Int32, z.toInt = cv hp a.toInt.toNat b.toInt.toNat + cv hp b.toInt.toNat c.toInt.toNat + cv hp a.toInt.toNat c.toInt.toNat → R (.inl (some (.int z))) hp) : xK (d + 2) 209 [.ref 66, .int a, .int b, .int c] hp R := by
  refine xin (M := am_m209) rfl rfl rfl ?_
  have g1 := cv_01 hp a.toInt.toNat b.toInt.toNat
  have g2 := cv_01 hp b.toInt.toNat c.toInt.toNat
  have g3 := cv_01 hp a.toInt.toNat c.toInt.toNat
  refine xald 1 ⟨u209, _, rfl⟩ rfl rfl ?_
  refine xild 2 ⟨u209, _, rfl⟩ rfl rfl ?_
  refine xild 3 ⟨u209, _, rfl⟩ rfl rfl ?_
  refine xcall 6 [.ref 66, .int _, .int _] [] hH ⟨u209, _, rfl⟩ rfl rfl rfl rfl rfl (k_cov hH a1 a2 b1 b2 (fun z3 h3 => ⟨_, rfl, ?_⟩))
  refine xald 7 ⟨u209, _, rfl⟩ rfl rfl ?_
  refine xild 8 ⟨u209, _, rfl⟩ rfl rfl ?_
  refine xild 9 ⟨u209, _, rfl⟩ rfl rfl ?_
  refine xcall 12 [.ref 66, .int _, .int _] [.int _] hH ⟨u209, _, rfl⟩ rfl rfl rfl rfl rfl (k_cov hH b1 b2 c1 c2 (fun z9 h9 => ⟨_, rfl, ?_⟩))
  refine xadd 13 _ ⟨u209, _, rfl⟩ rfl rfl (by omega) (by omega) (fun z12 h12 => ?_)
  refine xald 14 ⟨u209, _, rfl⟩ rfl rfl ?_
  refine xild 15 ⟨u209, _, rfl⟩ rfl rfl ?_
  refine xild 16 ⟨u209, _, rfl⟩ rfl rfl ?_
  refine xcall 19 [.ref 66, .int _, .int _] [.int _] hH ⟨u209, _, rfl⟩ rfl rfl rfl rfl rfl (k_cov hH a1 a2 c1 c2 (fun z16 h16 => ⟨_, rfl, ?_⟩))
  refine xadd 20 _ ⟨u209, _, rfl⟩ rfl rfl (by omega) (by omega) (fun z19 h19 => ?_)
  exact xret ⟨u209, _, rfl⟩ rfl (hR _ (by omega))
/-- none of the three pairs is covered -/
noncomputable def fr3 (hp : amH) (x y z : Nat) : Prop := tT hp x y = -1 ∧ tT hp y z = -1 ∧ tT hp x z = -1
theorem k_free {d : Nat} {hp : amH} {R : xQ} {a b c : Int32} (hH : bHk 84 bTT hp) (a1 : 0 ≤ a.toInt) (a2 : a.toInt < 15) (b1 : 0 ≤ b.toInt) (b2 : b.toInt < 15) (c1 : 0 ≤ c.toInt) (c2 : c.toInt < 15) (hR : ∀ z : Int32, (z.toInt = 1 ∧ fr3 hp a.toInt.toNat b.toInt.toNat c.toInt.toNat) ∨ (z.toInt = 0 ∧ ¬ fr3 hp a.toInt.toNat b.toInt.toNat c.toInt.toNat) → R (.inl (some (.int z))) hp) : xK (d + 3) 210 [.ref 66, .int a, .int b, .int c] hp R := by
  refine xin (M := am_m210) rfl rfl rfl ?_
  refine xald 1 ⟨u210, _, rfl⟩ rfl rfl ?_
  refine xild 2 ⟨u210, _, rfl⟩ rfl rfl ?_
  refine xild 3 ⟨u210, _, rfl⟩ rfl rfl ?_
  refine xild 4 ⟨u210, _, rfl⟩ rfl rfl ?_
  refine xcall 7 [.ref 66, .int _, .int _, .int _] [] hH ⟨u210, _, rfl⟩ rfl rfl rfl rfl rfl (k_covin hH a1 a2 b1 b2 c1 c2 (fun z4 h4 => ⟨_, rfl, ?_⟩))
  have key : z4.toInt = 0 ↔ fr3 hp a.toInt.toNat b.toInt.toNat c.toInt.toNat := by
    rw [h4]
    unfold fr3 cv
    split <;> split <;> split <;> (constructor <;> intro z <;> omega)
  refine xif_ne 10 ⟨u210, _, rfl⟩ rfl (fun c7 => ?_) (fun c7 => ?_)
  · refine xcst 15 (0) ⟨u210, _, rfl⟩ rfl (by decide) (fun z14 h14 => ?_)
    exact xretB ⟨u210, _, rfl⟩ rfl (Or.inl h14) (hR _ (Or.inr ⟨h14, fun z => c7 (key.mpr z)⟩))
  · refine xcst 11 (1) ⟨u210, _, rfl⟩ rfl (by decide) (fun z10 h10 => ?_)
    refine xgoto ⟨u210, _, rfl⟩ ?_
    exact xretB ⟨u210, _, rfl⟩ rfl (Or.inr h10) (hR _ (Or.inl ⟨h10, key.mp c7⟩))
/-! rows that systems are -/
theorem lay_get {w : List Int32} {x y u v : Nat} {c : Int32} (hx : x < 15) (hy : y < 15) (hu : u < 15) (hv : v < 15) (hw : w.length = 229) : (lay w x y c).getD (4 + 15 * u + v) 0 = if (u = x ∧ v = y) ∨ (u = y ∧ v = x) then c else w.getD (4 + 15 * u + v) 0 := by
  unfold lay
  simp only [List.getD_eq_getElem?_getD]
  by_cases h1 : u = y ∧ v = x
  · rw [if_pos (Or.inr h1), h1.1, h1.2, List.getElem?_set_self (by rw [List.length_set]; omega)]
    rfl
  · rw [List.getElem?_set_ne (by omega)]
    by_cases h2 : u = x ∧ v = y
    · rw [if_pos (Or.inl h2), h2.1, h2.2, List.getElem?_set_self (by omega)]
      rfl
    · rw [List.getElem?_set_ne (by omega), if_neg (by omega)]
theorem lay_get4 {w : List Int32} {x y i : Nat} {c : Int32} (hi : i < 4) : (lay w x y c).getD i 0 = w.getD i 0 := by
  unfold lay
  simp only [List.getD_eq_getElem?_getD]
  rw [List.getElem?_set_ne (by omega), List.getElem?_set_ne (by omega)]
/-- a triple's pairs get their third points, or none -/
theorem k_raw {d k : Nat} {hp : amH} {R : xQ} {av : List Value} {w1 : List Int32} {N : amM} (hN : amGG k = some N) (hH : bHk 84 bTT hp) (hrun : amRun amGG none 50 (d + 1) N N.1 0 (lv_args 0 av) [] hp 0 0 = some (.inl none, hp.set 67 (32, w1.map Value.int), 0, 0)) (hl : w1.length = 229)
    (hR : ∀ hp1, bHk 84 bTT hp1 → bFr [(67, 999)] hp hp1 → (∀ i, i < 229 → rN hp1 67 i = (w1.getD i 0).toInt) → R (.inl none) hp1) : xK (d + 1) k av hp R := by
  obtain ⟨w, h1, -, -⟩ := r_row hH (q := 67) (by decide) rfl
  obtain ⟨g1, g2, g3⟩ := r_set hH (q := 67) (dst := w) rfl h1 hl
  exact ⟨N, hN, 50, .inl none, _, hrun, hR _ g1 g2 g3⟩
theorem k_puts {d : Nat} {hp : amH} {R : xQ} {a b c : Int32} {x y z : Nat} (hH : bHk 84 bTT hp) (ha : a.toInt = (x : Int)) (hb : b.toInt = (y : Int)) (hc : c.toInt = (z : Int)) (hx : x < 15) (hy : y < 15) (hz : z < 15) (hxy : ¬ x = y) (hyz : ¬ y = z) (hxz : ¬ x = z)
    (hR : ∀ hp1, bHk 84 bTT hp1 → bFr [(67, 999)] hp hp1 → (∀ i, i < 4 → rN hp1 67 i = rN hp 67 i) → (∀ u v, u < 15 → v < 15 → tT hp1 u v = if pr x y z u v then (x : Int) + y + z - u - v else tT hp u v) → R (.inl none) hp1) : xK (d + 1) 206 [.ref 66, .int a, .int b, .int c] hp R := by
  obtain ⟨w, hw, hr⟩ := r_mW hH
  have hwl := hw.2.2
  refine k_raw (w1 := lay (lay (lay w x y c) y z a) x z b) (N := am_m206) rfl hH (m_puts hw ha hb hc hx hy hz 0 d 0 0) (by rw [lay_len, lay_len, lay_len]; exact hwl) (fun hp1 H1 F1 E1 => hR hp1 H1 F1 (fun i hi => ?_) (fun u v hu hv => ?_))
  · rw [E1 i (by omega), hr i (by omega), lay_get4 hi, lay_get4 hi, lay_get4 hi]
  · unfold tT
    rw [E1 _ (by omega), hr _ (by omega), lay_get hx hz hu hv (by rw [lay_len, lay_len]; exact hwl), lay_get hy hz hu hv (by rw [lay_len]; exact hwl), lay_get hx hy hu hv hwl]
    by_cases e1 : (u = x ∧ v = z) ∨ (u = z ∧ v = x)
    · rw [if_pos e1, if_pos (by omega), hb]
      omega
    · rw [if_neg e1]
      by_cases e2 : (u = y ∧ v = z) ∨ (u = z ∧ v = y)
      · rw [if_pos e2, if_pos (by omega), ha]
        omega
      · rw [if_neg e2]
        by_cases e3 : (u = x ∧ v = y) ∨ (u = y ∧ v = x)
        · rw [if_pos e3, if_pos (by omega), hc]
          omega
        · rw [if_neg e3, if_neg (by omega)]
theorem k_takes {d : Nat} {hp : amH} {R : xQ} {a b c : Int32} {x y z : Nat} (hH : bHk 84 bTT hp) (ha : a.toInt = (x : Int)) (hb : b.toInt = (y : Int)) (hc : c.toInt = (z : Int)) (hx : x < 15) (hy : y < 15) (hz : z < 15) (hxy : ¬ x = y) (hyz : ¬ y = z) (hxz : ¬ x = z)
    (hR : ∀ hp1, bHk 84 bTT hp1 → bFr [(67, 999)] hp hp1 → (∀ i, i < 4 → rN hp1 67 i = rN hp 67 i) → (∀ u v, u < 15 → v < 15 → tT hp1 u v = if pr x y z u v then -1 else tT hp u v) → R (.inl none) hp1) : xK (d + 1) 207 [.ref 66, .int a, .int b, .int c] hp R := by
  obtain ⟨w, hw, hr⟩ := r_mW hH
  have hwl := hw.2.2
  refine k_raw (w1 := lay (lay (lay w x y (-1)) y z (-1)) x z (-1)) (N := am_m207) rfl hH (m_takes hw ha hb hc hx hy hz 0 d 0 0) (by rw [lay_len, lay_len, lay_len]; exact hwl) (fun hp1 H1 F1 E1 => hR hp1 H1 F1 (fun i hi => ?_) (fun u v hu hv => ?_))
  · rw [E1 i (by omega), hr i (by omega), lay_get4 hi, lay_get4 hi, lay_get4 hi]
  · unfold tT
    have m1 : (-1 : Int32).toInt = -1 := by decide
    rw [E1 _ (by omega), hr _ (by omega), lay_get hx hz hu hv (by rw [lay_len, lay_len]; exact hwl), lay_get hy hz hu hv (by rw [lay_len]; exact hwl), lay_get hx hy hu hv hwl]
    by_cases e1 : (u = x ∧ v = z) ∨ (u = z ∧ v = x)
    · rw [if_pos e1, if_pos (by omega), m1]
    · rw [if_neg e1]
      by_cases e2 : (u = y ∧ v = z) ∨ (u = z ∧ v = y)
      · rw [if_pos e2, if_pos (by omega), m1]
      · rw [if_neg e2]
        by_cases e3 : (u = x ∧ v = y) ∨ (u = y ∧ v = x)
        · rw [if_pos e3, if_pos (by omega), m1]
        · rw [if_neg e3, if_neg (by omega)]
/-- systems: what stands at a pair -/
theorem Vf_t {hp : amH} (h : Vf (rN hp 67)) {a b c : Nat} (ha : a < 15) (hb : b < 15) (e : tT hp a b = (c : Int)) : (a : Int) < rN hp 67 0 ∧ (b : Int) < rN hp 67 0 ∧ (c : Int) < rN hp 67 0 ∧ a ≠ b ∧ a ≠ c ∧ b ≠ c ∧ tT hp b a = (c : Int) ∧ tT hp a c = (b : Int) ∧ tT hp b c = (a : Int) ∧ tT hp c a = (b : Int) ∧ tT hp c b = (a : Int) := by
  obtain ⟨h1, h2, h3, h4, h5, h6, h7, h8, h9⟩ := Vf_at h ha hb e
  have hp15 := h.2.1
  obtain ⟨-, -, -, -, -, -, k7, -⟩ := Vf_at h (a := a) (b := c) (c := b) ha (by omega) h8
  obtain ⟨-, -, -, -, -, -, l7, -⟩ := Vf_at h (a := b) (b := c) (c := a) hb (by omega) h9
  exact ⟨h1, h2, h3, h4, h5, h6, h7, h8, h9, k7, l7⟩
theorem Vf_m {hp : amH} (h : Vf (rN hp 67)) {a b : Nat} (ha : a < 15) (hb : b < 15) : tT hp a b = -1 ∨ ∃ c : Nat, c < 15 ∧ tT hp a b = (c : Int) := by
  rcases h.2.2 a b ha hb with g | ⟨c, g1, -, -, g4, -⟩
  · exact Or.inl g
  · have := h.2.1
    exact Or.inr ⟨c, by omega, g1⟩
theorem Vf_sym {hp : amH} (h : Vf (rN hp 67)) {a b : Nat} (ha : a < 15) (hb : b < 15) : tT hp b a = tT hp a b := by
  rcases Vf_m h ha hb with g | ⟨c, -, g⟩
  · rcases Vf_m h hb ha with k | ⟨c, -, k⟩
    · rw [g, k]
    · rw [(Vf_t h hb ha k).2.2.2.2.2.2.1, k]
  · rw [(Vf_t h ha hb g).2.2.2.2.2.2.1, g]
theorem P0_67 {hp hp1 : amH} (hF : bFr [(67, 999)] hp hp1) (hP : P0 hp) (hV : Vf (rN hp1 67)) : P0 hp1 := by
  have e : ∀ c i, ¬ c = 67 → rN hp1 c i = rN hp c i := fun c i hc => r_fr hF (by
    simp only [bIn]
    cases hb : Nat.beq 67 c
    · rfl
    · exact absurd (Nat.eq_of_beq_eq_true hb).symm hc)
  have e66 : ∀ i, rN hp1 66 i = rN hp 66 i := fun i => e 66 i (by decide)
  have e70 : ∀ i, rN hp1 70 i = rN hp 70 i := fun i => e 70 i (by decide)
  have e71 : ∀ i, rN hp1 71 i = rN hp 71 i := fun i => e 71 i (by decide)
  have e69 : ∀ i, rN hp1 69 i = rN hp 69 i := fun i => e 69 i (by decide)
  exact ⟨hV, fun z => Vf_eq (fun i _ => e70 i) (hP.2.1 (by rw [← e66]; exact z)), fun k hk hk2 => Vf_eq (fun i _ => e71 _) (hP.2.2.1 k (by rw [← e66]; exact hk) hk2), fun z => Vf_eq (fun i _ => e69 i) (hP.2.2.2 (by rw [← e69]; exact z))⟩
theorem pr_third {x y z a b : Nat} (hxy : ¬ x = y) (hyz : ¬ y = z) (hxz : ¬ x = z) (h : pr x y z a b) : ∃ c, (c = x ∨ c = y ∨ c = z) ∧ a + b + c = x + y + z ∧ ¬ a = c ∧ ¬ b = c := by
  obtain ⟨g1, g2, g3⟩ := h
  rcases g2 with rfl | rfl | rfl <;> rcases g3 with rfl | rfl | rfl <;> first | exact absurd rfl g1 | skip
  · exact ⟨z, Or.inr (Or.inr rfl), rfl, hxz, hyz⟩
  · exact ⟨y, Or.inr (Or.inl rfl), by omega, hxy, fun w => hyz w.symm⟩
  · exact ⟨z, Or.inr (Or.inr rfl), by omega, hyz, hxz⟩
  · exact ⟨x, Or.inl rfl, by omega, fun w => hxy w.symm, fun w => hxz w.symm⟩
  · exact ⟨y, Or.inr (Or.inl rfl), by omega, fun w => hyz w.symm, hxy⟩
  · exact ⟨x, Or.inl rfl, by omega, fun w => hxz w.symm, fun w => hxy w.symm⟩
theorem V_put {hp hp1 : amH} {x y z : Nat} (hV : Vf (rN hp 67)) (hx : (x : Int) < rN hp 67 0) (hy : (y : Int) < rN hp 67 0) (hz : (z : Int) < rN hp 67 0) (hxy : ¬ x = y) (hyz : ¬ y = z) (hxz : ¬ x = z) (hf : fr3 hp x y z)
    (h4 : ∀ i, i < 4 → rN hp1 67 i = rN hp 67 i) (hT : ∀ u v, u < 15 → v < 15 → tT hp1 u v = if pr x y z u v then (x : Int) + y + z - u - v else tT hp u v) : Vf (rN hp1 67) := by
  have hp15 := hV.2.1
  have h0 := h4 0 (by omega)
  have f2 : ∀ u v, pr x y z u v → tT hp u v = -1 := by
    intro u v ⟨g1, g2, g3⟩
    obtain ⟨f1, f2, f3⟩ := hf
    have s1 := Vf_sym hV (a := x) (b := y) (by omega) (by omega)
    have s2 := Vf_sym hV (a := y) (b := z) (by omega) (by omega)
    have s3 := Vf_sym hV (a := x) (b := z) (by omega) (by omega)
    rcases g2 with rfl | rfl | rfl <;> rcases g3 with rfl | rfl | rfl <;> first | exact absurd rfl g1 | assumption | omega
  have pV : ∀ u : Nat, (u = x ∨ u = y ∨ u = z) → (u : Int) < rN hp 67 0 := fun u h => by
    rcases h with h | h | h <;> rw [h] <;> assumption
  refine ⟨by rw [h0]; exact hV.1, by rw [h0]; exact hV.2.1, fun a b ha hb => ?_⟩
  have e := hT a b ha hb
  by_cases hp : pr x y z a b
  · right
    obtain ⟨c, c1, c2, c3, c4⟩ := pr_third hxy hyz hxz hp
    have q1 := pV a hp.2.1
    have q2 := pV b hp.2.2
    have q3 := pV c c1
    have pb : pr x y z b a := ⟨fun w => hp.1 w.symm, hp.2.2, hp.2.1⟩
    have pc : pr x y z a c := ⟨c3, hp.2.1, c1⟩
    have n1 := hp.1
    have e2 := hT b a hb ha
    have hc : c < 15 := by clear e hp pb pc c1 f2 pV e2; omega
    have e3 := hT a c ha hc
    rw [if_pos hp] at e
    rw [if_pos pb] at e2
    rw [if_pos pc] at e3
    clear hp pb pc c1 f2 pV
    have d1 : tT hp1 a b = (c : Int) := by rw [e]; omega
    have d2 : tT hp1 b a = (c : Int) := by rw [e2]; omega
    have d3 : tT hp1 a c = (b : Int) := by rw [e3]; omega
    exact ⟨c, d1, by rw [h0]; exact q1, by rw [h0]; exact q2, by rw [h0]; exact q3, n1, c3, c4, d2, d3⟩
  · rw [if_neg hp] at e
    rcases Vf_m hV ha hb with g | ⟨c, hc, g⟩
    · left
      have : tT hp1 a b = -1 := by rw [e, g]
      exact this
    · right
      obtain ⟨k1, k2, k3, k4, k5, k6, k7, k8, k9, k10, k11⟩ := Vf_t hV ha hb g
      have n1 : ¬ pr x y z b a := fun z1 => hp ⟨fun w => z1.1 w.symm, z1.2.2, z1.2.1⟩
      have n2 : ¬ pr x y z a c := fun z1 => by have := f2 _ _ z1; clear z1 n1 hp f2 pV; omega
      clear f2 pV
      have d1 : tT hp1 a b = (c : Int) := by rw [e, g]
      have d2 : tT hp1 b a = (c : Int) := by rw [hT b a hb ha, if_neg n1, k7]
      have d3 : tT hp1 a c = (b : Int) := by rw [hT a c ha hc, if_neg n2, k8]
      clear hp n1 n2
      exact ⟨c, d1, by omega, by omega, by omega, k4, k5, k6, d2, d3⟩
theorem V_take {hp hp1 : amH} {x y z : Nat} (hV : Vf (rN hp 67)) (hx : x < 15) (hy : y < 15) (ht : tT hp x y = (z : Int))
    (h4 : ∀ i, i < 4 → rN hp1 67 i = rN hp 67 i) (hT : ∀ u v, u < 15 → v < 15 → tT hp1 u v = if pr x y z u v then -1 else tT hp u v) : Vf (rN hp1 67) := by
  have hp15 := hV.2.1
  have h0 := h4 0 (by omega)
  obtain ⟨t1, t2, t3, t4, t5, t6, t7, t8, t9, t10, t11⟩ := Vf_t hV hx hy ht
  have f2 : ∀ u v, pr x y z u v → tT hp u v = (x : Int) + y + z - u - v := by
    intro u v ⟨g1, g2, g3⟩
    rcases g2 with rfl | rfl | rfl <;> rcases g3 with rfl | rfl | rfl <;> first | exact absurd rfl g1 | omega
  refine ⟨by rw [h0]; exact hV.1, by rw [h0]; exact hV.2.1, fun a b ha hb => ?_⟩
  have e := hT a b ha hb
  by_cases hp : pr x y z a b
  · left
    rw [if_pos hp] at e
    exact e
  · rw [if_neg hp] at e
    rcases Vf_m hV ha hb with g | ⟨c, hc, g⟩
    · left
      have : tT hp1 a b = -1 := by rw [e, g]
      exact this
    · right
      obtain ⟨k1, k2, k3, k4, k5, k6, k7, k8, k9, k10, k11⟩ := Vf_t hV ha hb g
      have n1 : ¬ pr x y z b a := fun z1 => hp (by omega)
      have n2 : ¬ pr x y z a c := fun z1 => by have := f2 _ _ z1; omega
      refine ⟨c, ?_, by omega, by omega, by omega, k4, k5, k6, ?_, ?_⟩
      · have : tT hp1 a b = (c : Int) := by rw [e, g]
        exact this
      · have : tT hp1 b a = (c : Int) := by rw [hT b a hb ha, if_neg n1, k7]
        exact this
      · have : tT hp1 a c = (b : Int) := by rw [hT a c ha hc, if_neg n2, k8]
        exact this
/-- a free triple is put: the system stays one -/
theorem k_put {d : Nat} {hp : amH} {R : xQ} {a b c : Int32} (hH : bHk 84 bTT hp) (hP : P0 hp) (a1 : 0 ≤ a.toInt) (a2 : a.toInt < rN hp 67 0) (b1 : 0 ≤ b.toInt) (b2 : b.toInt < rN hp 67 0) (c1 : 0 ≤ c.toInt) (c2 : c.toInt < rN hp 67 0) (hab : ¬ a.toInt = b.toInt) (hbc : ¬ b.toInt = c.toInt) (hac : ¬ a.toInt = c.toInt) (hf : fr3 hp a.toInt.toNat b.toInt.toNat c.toInt.toNat)
    (hR : ∀ hp1, bHk 84 bTT hp1 → P0 hp1 → bFr [(67, 999)] hp hp1 → (∀ i, i < 4 → rN hp1 67 i = rN hp 67 i) → (∀ u v, u < 15 → v < 15 → tT hp1 u v = if pr a.toInt.toNat b.toInt.toNat c.toInt.toNat u v then a.toInt + b.toInt + c.toInt - u - v else tT hp u v) → R (.inl none) hp1) : xK (d + 1) 206 [.ref 66, .int a, .int b, .int c] hp R := by
  have hp15 := hP.1.2.1
  refine k_puts hH (x := a.toInt.toNat) (y := b.toInt.toNat) (z := c.toInt.toNat) (by omega) (by omega) (by omega) (by omega) (by omega) (by omega) (by omega) (by omega) (by omega) (fun hp1 H1 F1 E1 T1 => ?_)
  have hV := V_put hP.1 (by omega) (by omega) (by omega) (by omega) (by omega) (by omega) hf E1 T1
  refine hR hp1 H1 (P0_67 F1 hP hV) F1 E1 (fun u v hu hv => ?_)
  rw [T1 u v hu hv]
  split
  · omega
  · rfl
/-- a triple is taken: the system stays one -/
theorem k_take {d : Nat} {hp : amH} {R : xQ} {a b c : Int32} (hH : bHk 84 bTT hp) (hP : P0 hp) (a1 : 0 ≤ a.toInt) (a2 : a.toInt < 15) (b1 : 0 ≤ b.toInt) (b2 : b.toInt < 15) (ht : tT hp a.toInt.toNat b.toInt.toNat = c.toInt) (hc : 0 ≤ c.toInt)
    (hR : ∀ hp1, bHk 84 bTT hp1 → P0 hp1 → bFr [(67, 999)] hp hp1 → (∀ i, i < 4 → rN hp1 67 i = rN hp 67 i) → (∀ u v, u < 15 → v < 15 → tT hp1 u v = if pr a.toInt.toNat b.toInt.toNat c.toInt.toNat u v then -1 else tT hp u v) → R (.inl none) hp1) : xK (d + 1) 207 [.ref 66, .int a, .int b, .int c] hp R := by
  have hp15 := hP.1.2.1
  obtain ⟨t1, t2, t3, t4, t5, t6, -⟩ := Vf_t hP.1 (a := a.toInt.toNat) (b := b.toInt.toNat) (c := c.toInt.toNat) (by omega) (by omega) (by omega)
  refine k_takes hH (x := a.toInt.toNat) (y := b.toInt.toNat) (z := c.toInt.toNat) (by omega) (by omega) (by omega) (by omega) (by omega) (by omega) (by omega) (by omega) (by omega) (fun hp1 H1 F1 E1 T1 => ?_)
  have hV := V_take hP.1 (by omega) (by omega) (z := c.toInt.toNat) (by omega) E1 T1
  exact hR hp1 H1 (P0_67 F1 hP hV) F1 E1 T1
end
/-! ##### 17.d.guard ##### -/
section
/-! ===== ways by hand: ranges, refusals ===== -/
theorem P0_W {W : List (Nat × Nat)} (hW : bDj W bPr = true) {hp hp1 : amH} (hF : bFr W hp hp1) (hP : P0 hp) : P0 hp1 := P0_fr hp hp1 (fun c k hc => hF c k (bDj_s hW c k hc)) hP
theorem bFr_up {W W1 : List (Nat × Nat)} {hp hp1 : amH} (h : bFr W hp hp1) (hW : ∀ c k, bIn W c k = true → bIn W1 c k = true) : bFr W1 hp hp1 := fun c k hk => h c k (by
  cases hb : bIn W c k
  · rfl
  · rw [hW c k hb] at hk; cases hk)
theorem u196 : bUp 0 am_m196.1 = true := by decide +kernel
theorem u197 : bUp 0 am_m197.1 = true := by decide +kernel
theorem u254 : bUp 0 am_m254.1 = true := by decide +kernel
theorem u255 : bUp 0 am_m255.1 = true := by decide +kernel
theorem u256 : bUp 0 am_m256.1 = true := by decide +kernel
theorem k_inr {d : Nat} {hp : amH} {R : xQ} {v a b : Int32} (hR : ∀ z : Int32, (z.toInt = 1 ∧ a.toInt ≤ v.toInt ∧ v.toInt ≤ b.toInt) ∨ (z.toInt = 0 ∧ ¬ (a.toInt ≤ v.toInt ∧ v.toInt ≤ b.toInt)) → R (.inl (some (.int z))) hp) : xK d 196 [.int v, .int a, .int b] hp R := by
  refine xin (M := am_m196) rfl rfl rfl ?_
  refine xild 1 ⟨u196, _, rfl⟩ rfl rfl ?_
  refine xild 2 ⟨u196, _, rfl⟩ rfl rfl ?_
  refine xcmp_lt 5 ⟨u196, _, rfl⟩ rfl (fun c2 => ?_) (fun c2 => ?_)
  · refine xcst 15 (0) ⟨u196, _, rfl⟩ rfl (by decide) (fun z14 h14 => ?_)
    exact xretB ⟨u196, _, rfl⟩ rfl (by omega) (hR _ (by omega))
  · refine xild 6 ⟨u196, _, rfl⟩ rfl rfl ?_
    refine xild 7 ⟨u196, _, rfl⟩ rfl rfl ?_
    refine xcmp_gt 10 ⟨u196, _, rfl⟩ rfl (fun c7 => ?_) (fun c7 => ?_)
    · refine xcst 15 (0) ⟨u196, _, rfl⟩ rfl (by decide) (fun z14 h14 => ?_)
      exact xretB ⟨u196, _, rfl⟩ rfl (by omega) (hR _ (by omega))
    · refine xcst 11 (1) ⟨u196, _, rfl⟩ rfl (by decide) (fun z10 h10 => ?_)
      refine xgoto ⟨u196, _, rfl⟩ ?_
      exact xretB ⟨u196, _, rfl⟩ rfl (by omega) (hR _ (by omega))
theorem k_fails {d : Nat} {hp : amH} {R : xQ} {v e : Int32} (hH : bHk 84 bTT hp) (hv : v.toInt = 0 ∨ v.toInt = 1) (hR : ∀ hp1, bHk 84 bTT hp1 → bFr [(66, 7)] hp hp1 → R (.inl (some (.int v))) hp1) : xK d 197 [.ref 66, .int v, .int e] hp R := by
  have b1 := aMin e
  have b2 := aMax e
  refine xin (M := am_m197) rfl rfl rfl ?_
  refine xild 1 ⟨u197, _, rfl⟩ rfl rfl ?_
  refine xif_eq 4 ⟨u197, _, rfl⟩ rfl (fun c1 => ?_) (fun c1 => ?_)
  · refine xild 10 ⟨u197, _, rfl⟩ rfl rfl ?_
    exact xretB ⟨u197, _, rfl⟩ rfl hv (hR _ hH (bFr.refl _ _))
  · refine xald 5 ⟨u197, _, rfl⟩ rfl rfl ?_
    refine xild 6 ⟨u197, _, rfl⟩ rfl rfl ?_
    refine xputI 9 hH ⟨u197, _, rfl⟩ rfl rfl ⟨rfl, rfl⟩ (by omega) (by omega) (fun hp6 hH6 U6 => ?_)
    refine xild 10 ⟨u197, _, rfl⟩ rfl rfl ?_
    exact xretB ⟨u197, _, rfl⟩ rfl hv (hR _ hH6 (rU_fr U6 rfl))
theorem k_nopt {d : Nat} {hp : amH} {R : xQ} {p : Int32} (hH : bHk 84 bTT hp) (hP : P0 hp) (hR : ∀ (z : Int32) hp1, bHk 84 bTT hp1 → P0 hp1 → bFr [(66, 7)] hp hp1 → (z.toInt = 1 ∨ (z.toInt = 0 ∧ 0 ≤ p.toInt ∧ p.toInt < rN hp 67 0)) → R (.inl (some (.int z))) hp1) : xK (d + 1) 254 [.ref 66, .int p] hp R := by
  refine xin (M := am_m254) rfl rfl rfl ?_
  refine xald 1 ⟨u254, _, rfl⟩ rfl rfl ?_
  refine xcst 2 (0) ⟨u254, _, rfl⟩ rfl (by decide) (fun z1 h1 => ?_)
  refine xputI 5 hH ⟨u254, _, rfl⟩ rfl rfl ⟨rfl, rfl⟩ (by omega) (by omega) (fun hp2 hH2 U2 => ?_)
  have hP2 := P0_W (W := [(66, 7)]) (by decide) (rU_fr U2 rfl) hP
  have e0 : rN hp2 67 0 = rN hp 67 0 := rU_ne U2 (by omega)
  have q1 := hP2.1.1
  have q2 := hP2.1.2.1
  refine xald 6 ⟨u254, _, rfl⟩ rfl rfl ?_
  refine xild 7 ⟨u254, _, rfl⟩ rfl rfl ?_
  refine xcst 8 (0) ⟨u254, _, rfl⟩ rfl (by decide) (fun z7 h7 => ?_)
  refine xald 9 ⟨u254, _, rfl⟩ rfl rfl ?_
  refine xcall 12 [.ref 66] [.int _, .int _, .ref 66] hH2 ⟨u254, _, rfl⟩ rfl rfl rfl rfl rfl (k_points hH2 (fun z9 h9 => ⟨_, rfl, ?_⟩))
  refine xcst 13 (1) ⟨u254, _, rfl⟩ rfl (by decide) (fun z12 h12 => ?_)
  refine xsub 14 _ ⟨u254, _, rfl⟩ rfl rfl (by omega) (by omega) (fun z13 h13 => ?_)
  refine xcallS 17 [.int _, .int _, .int _] [.ref 66] hH2 ⟨u254, _, rfl⟩ rfl rfl rfl rfl rfl (k_inr (fun z14 h14 => ⟨_, rfl, ?_⟩))
  refine xif_ne 20 ⟨u254, _, rfl⟩ rfl (fun c17 => ?_) (fun c17 => ?_)
  · refine xcst 25 (0) ⟨u254, _, rfl⟩ rfl (by decide) (fun z24 h24 => ?_)
    refine xcst 26 (1) ⟨u254, _, rfl⟩ rfl (by decide) (fun z25 h25 => ?_)
    refine xcall 29 [.ref 66, .int _, .int _] [] hH2 ⟨u254, _, rfl⟩ rfl rfl rfl rfl rfl (k_fails hH2 (by omega) (fun hp3 hH3 F3 => ⟨_, rfl, ?_⟩))
    exact xretB ⟨u254, _, rfl⟩ rfl (by omega) (hR _ _ hH3 (P0_W (by decide) F3 hP2) ((rU_fr U2 rfl).trans F3) (Or.inr (by omega)))
  · refine xcst 21 (1) ⟨u254, _, rfl⟩ rfl (by decide) (fun z20 h20 => ?_)
    refine xgoto ⟨u254, _, rfl⟩ ?_
    refine xcst 26 (1) ⟨u254, _, rfl⟩ rfl (by decide) (fun z25 h25 => ?_)
    refine xcall 29 [.ref 66, .int _, .int _] [] hH2 ⟨u254, _, rfl⟩ rfl rfl rfl rfl rfl (k_fails hH2 (by omega) (fun hp3 hH3 F3 => ⟨_, rfl, ?_⟩))
    exact xretB ⟨u254, _, rfl⟩ rfl (by omega) (hR _ _ hH3 (P0_W (by decide) F3 hP2) ((rU_fr U2 rfl).trans F3) (Or.inl h20))
theorem e_pt {hp hp1 : amH} (h : bFr [(66, 7)] hp hp1) (i : Nat) : rN hp1 67 i = rN hp 67 i := r_fr h rfl
theorem k_noset {d : Nat} {hp : amH} {R : xQ} {a b c : Int32} (hH : bHk 84 bTT hp) (hP : P0 hp) (hR : ∀ (z : Int32) hp1, bHk 84 bTT hp1 → P0 hp1 → bFr [(66, 7)] hp hp1 → (z.toInt = 1 ∨ (z.toInt = 0 ∧ 0 ≤ a.toInt ∧ a.toInt < rN hp 67 0 ∧ 0 ≤ b.toInt ∧ b.toInt < rN hp 67 0 ∧ 0 ≤ c.toInt ∧ c.toInt < rN hp 67 0 ∧ ¬ a.toInt = b.toInt ∧ ¬ b.toInt = c.toInt ∧ ¬ a.toInt = c.toInt)) → R (.inl (some (.int z))) hp1) : xK (d + 2) 256 [.ref 66, .int a, .int b, .int c] hp R := by
  refine xin (M := am_m256) rfl rfl rfl ?_
  have j52 : ∀ hp1, bHk 84 bTT hp1 → P0 hp1 → bFr [(66, 7)] hp hp1 → xV (d + 2) am_m256 52 [some (.ref 66), some (.int a), some (.int b), some (.int c)] [] hp1 R := by
    intro hp1 hH1 hP1 hF1
    refine xcst 53 (1) ⟨u256, _, rfl⟩ rfl (by decide) (fun z34 h34 => ?_)
    refine xgoto ⟨u256, _, rfl⟩ ?_
    exact xretB ⟨u256, _, rfl⟩ rfl (by omega) (hR _ _ hH1 hP1 hF1 (Or.inl h34))
  have j40 : ∀ hp1, bHk 84 bTT hp1 → P0 hp1 → bFr [(66, 7)] hp hp1 → xV (d + 2) am_m256 40 [some (.ref 66), some (.int a), some (.int b), some (.int c)] [.ref 66] hp1 R := by
    intro hp1 hH1 hP1 hF1
    refine xcst 41 (1) ⟨u256, _, rfl⟩ rfl (by decide) (fun z40 h40 => ?_)
    refine xgoto ⟨u256, _, rfl⟩ ?_
    refine xcst 46 (2) ⟨u256, _, rfl⟩ rfl (by decide) (fun z45 h45 => ?_)
    refine xcall 49 [.ref 66, .int _, .int _] [] hH1 ⟨u256, _, rfl⟩ rfl rfl rfl rfl rfl (k_fails hH1 (by omega) (fun hp4 hH4 F4 => ⟨_, rfl, ?_⟩))
    refine xif_eq 52 ⟨u256, _, rfl⟩ rfl (fun c31 => absurd c31 (by omega)) (fun c31 => ?_)
    exact j52 _ hH4 (P0_W (by decide) F4 hP1) (hF1.trans F4)
  refine xald 1 ⟨u256, _, rfl⟩ rfl rfl ?_
  refine xild 2 ⟨u256, _, rfl⟩ rfl rfl ?_
  refine xcall 5 [.ref 66, .int _] [] hH ⟨u256, _, rfl⟩ rfl rfl rfl rfl rfl (k_nopt hH hP (fun z2 hp2 hH2 hP2 F2 h2 => ⟨_, rfl, ?_⟩))
  refine xif_ne 8 ⟨u256, _, rfl⟩ rfl (fun c5 => j52 _ hH2 hP2 F2) (fun c5 => ?_)
  refine xald 9 ⟨u256, _, rfl⟩ rfl rfl ?_
  refine xild 10 ⟨u256, _, rfl⟩ rfl rfl ?_
  refine xcall 13 [.ref 66, .int _] [] hH2 ⟨u256, _, rfl⟩ rfl rfl rfl rfl rfl (k_nopt hH2 hP2 (fun z3 hp3 hH3 hP3 F3 h3 => ⟨_, rfl, ?_⟩))
  rw [e_pt F2] at h3
  have F3 := F2.trans F3
  refine xif_ne 16 ⟨u256, _, rfl⟩ rfl (fun c13 => j52 _ hH3 hP3 F3) (fun c13 => ?_)
  refine xald 17 ⟨u256, _, rfl⟩ rfl rfl ?_
  refine xild 18 ⟨u256, _, rfl⟩ rfl rfl ?_
  refine xcall 21 [.ref 66, .int _] [] hH3 ⟨u256, _, rfl⟩ rfl rfl rfl rfl rfl (k_nopt hH3 hP3 (fun z4 hp4 hH4 hP4 F4 h4 => ⟨_, rfl, ?_⟩))
  rw [e_pt F3] at h4
  have F4 := F3.trans F4
  refine xif_ne 24 ⟨u256, _, rfl⟩ rfl (fun c21 => j52 _ hH4 hP4 F4) (fun c21 => ?_)
  refine xald 25 ⟨u256, _, rfl⟩ rfl rfl ?_
  refine xild 26 ⟨u256, _, rfl⟩ rfl rfl ?_
  refine xild 27 ⟨u256, _, rfl⟩ rfl rfl ?_
  refine xcmp_eq 30 ⟨u256, _, rfl⟩ rfl (fun c27 => j40 _ hH4 hP4 F4) (fun c27 => ?_)
  refine xild 31 ⟨u256, _, rfl⟩ rfl rfl ?_
  refine xild 32 ⟨u256, _, rfl⟩ rfl rfl ?_
  refine xcmp_eq 35 ⟨u256, _, rfl⟩ rfl (fun c32 => j40 _ hH4 hP4 F4) (fun c32 => ?_)
  refine xild 36 ⟨u256, _, rfl⟩ rfl rfl ?_
  refine xild 37 ⟨u256, _, rfl⟩ rfl rfl ?_
  refine xcmp_ne 40 ⟨u256, _, rfl⟩ rfl (fun c37 => ?_) (fun c37 => j40 _ hH4 hP4 F4)
  refine xcst 45 (0) ⟨u256, _, rfl⟩ rfl (by decide) (fun z44 h44 => ?_)
  refine xcst 46 (2) ⟨u256, _, rfl⟩ rfl (by decide) (fun z45 h45 => ?_)
  refine xcall 49 [.ref 66, .int _, .int _] [] hH4 ⟨u256, _, rfl⟩ rfl rfl rfl rfl rfl (k_fails hH4 (by omega) (fun hp5 hH5 F5 => ⟨_, rfl, ?_⟩))
  refine xif_eq 52 ⟨u256, _, rfl⟩ rfl (fun c49 => ?_) (fun c49 => absurd h44 c49)
  refine xcst 57 (0) ⟨u256, _, rfl⟩ rfl (by decide) (fun z56 h56 => ?_)
  exact xretB ⟨u256, _, rfl⟩ rfl (by omega) (hR _ _ hH5 (P0_W (by decide) F5 hP4) (F4.trans F5) (Or.inr (by omega)))
end
/-! ##### 17.e.past ##### -/
section
/-! ===== ways by hand: rows copied, remembered, brought back ===== -/
theorem u198 : bUp 0 am_m198.1 = true := by decide +kernel
theorem u200 : bUp 0 am_m200.1 = true := by decide +kernel
theorem u201 : bUp 0 am_m201.1 = true := by decide +kernel
theorem u202 : bUp 0 am_m202.1 = true := by decide +kernel
theorem u277 : bUp 0 am_m277.1 = true := by decide +kernel
theorem u339 : bUp 0 am_m339.1 = true := by decide +kernel
theorem u340 : bUp 0 am_m340.1 = true := by decide +kernel
theorem u341 : bUp 0 am_m341.1 = true := by decide +kernel
theorem k_copy {d : Nat} {hp : amH} {R : xQ} {p q kp kq : Nat} {a b n : Int32} (s0 d0 N : Nat) (hH : bHk 84 bTT hp) (hp84 : p < 84) (hq84 : q < 84) (hpq : ¬ p = q) (hTp : bTT p = some (32, kp, [.inl (0, 4294967295)])) (hTq : bTT q = some (32, kq, [.inl (0, 4294967295)])) (ha : a.toInt = (s0 : Int)) (hb : b.toInt = (d0 : Int)) (hn : n.toInt = (N : Int)) (hs : s0 + N ≤ kp) (hd : d0 + N ≤ kq) (hk : kp ≤ 100000 ∧ kq ≤ 100000)
    (hR : ∀ hp1, bHk 84 bTT hp1 → bFr [(q, 999)] hp hp1 → (∀ i, i < kq → rN hp1 q i = if d0 ≤ i ∧ i < d0 + N then rN hp p (s0 + (i - d0)) else rN hp q i) → R (.inl none) hp1) : xK d 198 [.ref p, .int a, .ref q, .int b, .int n] hp R := by
  obtain ⟨hp1, h1, h2, h3, h4⟩ := r_copy hH hp84 hq84 hpq hTp hTq ha hb hn hs hd hk d
  exact ⟨am_m198, rfl, _, .inl none, hp1, h1, hR hp1 h2 h3 h4⟩
/-- the rows that are remembered, moved down by one -/
theorem sh_loop {d : Nat} {hp : amH} {R : xQ} {a b n : Int32} (ha : a.toInt = 229) (hb : b.toInt = 0) (hn : n.toInt = 2061) (hR : ∀ hp1, bHk 84 bTT hp1 → bFr [(71, 999)] hp hp1 → (∀ i, i < 2061 → rN hp1 71 i = rN hp 71 (229 + i)) → R (.inl none) hp1) :
    ∀ (j k : Nat) (hpk : amH) (kk : Int32), k + j = 2061 → kk.toInt = (k : Int) → bHk 84 bTT hpk → bFr [(71, 999)] hp hpk → (∀ i, i < 2290 → rN hpk 71 i = if i < k then rN hp 71 (229 + i) else rN hp 71 i) →
      xV d am_m198 3 [some (.ref 71), some (.int a), some (.ref 71), some (.int b), some (.int n), some (.int kk)] [] hpk R := by
  intro j
  induction j with
  | zero =>
    intro k hpk kk hk hkk hH hF hI
    refine xild2 5 ⟨u198, _, rfl⟩ rfl rfl ?_
    refine xild2 7 ⟨u198, _, rfl⟩ rfl rfl ?_
    refine xcmp_ge 10 ⟨u198, _, rfl⟩ rfl (fun c7 => ?_) (fun c7 => absurd c7 (by omega))
    exact xretV ⟨u198, _, rfl⟩ rfl (hR hpk hH hF (fun i hi => by rw [hI i (by omega), if_pos (by omega)]))
  | succ j ih =>
    intro k hpk kk hk hkk hH hF hI
    refine xild2 5 ⟨u198, _, rfl⟩ rfl rfl ?_
    refine xild2 7 ⟨u198, _, rfl⟩ rfl rfl ?_
    refine xcmp_ge 10 ⟨u198, _, rfl⟩ rfl (fun c7 => absurd c7 (by omega)) (fun c7 => ?_)
    refine xald 11 ⟨u198, _, rfl⟩ rfl rfl ?_
    refine xild 12 ⟨u198, _, rfl⟩ rfl rfl ?_
    refine xild2 14 ⟨u198, _, rfl⟩ rfl rfl ?_
    refine xadd 15 k ⟨u198, _, rfl⟩ rfl (by omega) (by omega) (by omega) (fun z14 h14 => ?_)
    refine xald 16 ⟨u198, _, rfl⟩ rfl rfl ?_
    refine xild 17 ⟨u198, _, rfl⟩ rfl rfl ?_
    refine xild2 19 ⟨u198, _, rfl⟩ rfl rfl ?_
    refine xadd 20 (229 + k) ⟨u198, _, rfl⟩ rfl (by omega) (by omega) (by omega) (fun z19 h19 => ?_)
    refine xiald 21 (229 + k) hH ⟨u198, _, rfl⟩ rfl (by decide) rfl (by omega) (by omega) (fun z20 h20 => ?_)
    have b1 := aMin z20
    have b2 := aMax z20
    refine xiast 22 k hH ⟨u198, _, rfl⟩ rfl (by decide) rfl (by omega) (by omega) (by omega) (by omega) (fun hp21 hH21 U21 => ?_)
    refine xinc 25 (1) ⟨u198, _, rfl⟩ rfl rfl rfl (by decide) (by omega) (by omega) (fun z22 h22 => ?_)
    refine xgoto ⟨u198, _, rfl⟩ ?_
    refine ih (k + 1) hp21 z22 (by omega) (by omega) hH21 (hF.trans (rU_fr U21 (bIn_all (by decide) k))) (fun i hi => ?_)
    by_cases hik : i = k
    · subst hik
      rw [U21.1, h20, hI _ (by omega), if_neg (by omega), if_pos (by omega)]
    · rw [rU_ne U21 (by omega), hI i hi]
      by_cases h : i < k
      · rw [if_pos h, if_pos (by omega)]
      · rw [if_neg h, if_neg (by omega)]
theorem k_shift {d : Nat} {hp : amH} {R : xQ} {a b n : Int32} (hH : bHk 84 bTT hp) (ha : a.toInt = 229) (hb : b.toInt = 0) (hn : n.toInt = 2061) (hR : ∀ hp1, bHk 84 bTT hp1 → bFr [(71, 999)] hp hp1 → (∀ i, i < 2061 → rN hp1 71 i = rN hp 71 (229 + i)) → R (.inl none) hp1) : xK d 198 [.ref 71, .int a, .ref 71, .int b, .int n] hp R := by
  refine xin (M := am_m198) rfl rfl rfl ?_
  refine xcst 1 (0) ⟨u198, _, rfl⟩ rfl (by decide) (fun z0 h0 => ?_)
  refine xist2 3 ⟨u198, _, rfl⟩ rfl rfl ?_
  exact sh_loop ha hb hn hR 2061 0 hp z0 rfl (by omega) hH (bFr.refl _ _) (fun i hi => by rw [if_neg (by omega)])
noncomputable def wRem : List (Nat × Nat) := [(71, 999), (66, 5)]
theorem bIn_ne {c c1 k i : Nat} (h : ¬ c1 = c) : bIn [(c, k)] c1 i = false := by
  simp only [bIn]
  cases hb : Nat.beq c c1
  · rfl
  · exact absurd (Nat.eq_of_beq_eq_true hb).symm h
theorem bIn_h {c k : Nat} : ∀ {W : List (Nat × Nat)} {i : Nat}, (c, k) ∈ W → (k = i ∨ k = 999) → bIn W c i = true
  | p :: r, i, h, hk => by
    unfold bIn
    cases hb : Nat.beq p.1 c
    · dsimp only
      rcases List.mem_cons.mp h with z | z
      · rw [← z] at hb
        rw [Nat.beq_refl] at hb
        cases hb
      · exact bIn_h z hk
    · dsimp only
      cases hb2 : Nat.beq p.2 i
      · dsimp only
        cases hb3 : Nat.beq p.2 999
        · dsimp only
          rcases List.mem_cons.mp h with z | z
          · rw [← z] at hb2 hb3
            rcases hk with u | u
            · subst u; rw [Nat.beq_refl] at hb2; cases hb2
            · subst u; rw [Nat.beq_refl] at hb3; cases hb3
          · exact bIn_h z hk
        · rfl
      · rfl
/-- what is written in one place, is written among many -/
theorem bFr_in {c k : Nat} {W : List (Nat × Nat)} {hp hp1 : amH} (h : bFr [(c, k)] hp hp1) (hW : (c, k) ∈ W) : bFr W hp hp1 := bFr_up h (fun c1 i hi => by
  obtain ⟨p, g1, g2, g3⟩ := bIn_mem hi
  have : p = (c, k) := by simpa using g1
  subst this
  dsimp only at g2 g3
  subst g2
  exact bIn_h hW g3)
theorem bFr_sub {W W1 : List (Nat × Nat)} {hp hp1 : amH} (h : bFr W hp hp1) (hW : ∀ p ∈ W, p ∈ W1) : bFr W1 hp hp1 := bFr_up h (fun c1 i hi => by
  obtain ⟨p, g1, g2, g3⟩ := bIn_mem hi
  subst g2
  exact bIn_h (hW p g1) g3)
end
/-! ##### 17.f.pub ##### -/
section
/-! ===== ways by hand: what is said of a call from outside ===== -/
noncomputable def wM : List (Nat × Nat) := [(66, 5), (66, 6), (66, 7), (66, 12), (66, 14), (66, 17), (66, 19), (66, 32), (67, 999), (68, 999), (69, 999), (70, 999), (71, 999), (72, 999), (73, 999), (74, 999), (75, 999), (76, 999), (77, 999), (78, 999), (79, 999), (82, 999)]
theorem ref66 {v : Value} (h : bYr 84 (.inr (.inr [66])) v) : v = .ref 66 := by
  obtain ⟨i, e, -, hi⟩ := h
  have hi : i = 66 := by simpa using hi
  rw [e, hi]
/-- a checked method of one case, an int, called -/
theorem xsem1 {P : amH → Prop} {d k lo hi : Nat} {s : bSp} {fs : List bFa} {av : List Value} {hp : amH} {R : xQ} (hs : bSem amGG P 84 bTT k s) (hd : s.2.2.1 ≤ d) (hH : bHk 84 bTT hp) (hP : P hp) (ha : bArgs 84 s.1 av) (hf : bFacts hp s.2.1) (hc : s.2.2.2.2.2 = [(some (.inl (lo, hi)), fs)]) (ht : s.2.2.2.2.1 = [])
    (hR : ∀ (z : Int32) hp1, bHk 84 bTT hp1 → P hp1 → bFr s.2.2.2.1 hp hp1 → (lo : Int) - 2147483648 ≤ z.toInt → z.toInt ≤ (hi : Int) - 2147483648 → R (.inl (some (.int z))) hp1) : xK d k av hp R := by
  refine xsem hs hd hH hP ha hf (fun y hp1 g1 g2 g3 g4 => ?_)
  match y with
  | .inl v =>
    obtain ⟨c, h1, h2, h3⟩ := g4
    rw [hc] at h1
    have h1 : c = (some (.inl (lo, hi)), fs) := by simpa using h1
    subst h1
    match v, h2 with
    | some v, ⟨z, e, z1, z2⟩ =>
      subst e
      have := aOff_eq z
      exact hR z hp1 g1 g2 g3 (by omega) (by omega)
  | .inr E =>
    have g4 : E ∈ s.2.2.2.2.1 := g4
    rw [ht] at g4
    cases g4
theorem xsemV {P : amH → Prop} {d k : Nat} {s : bSp} {fs : List bFa} {av : List Value} {hp : amH} {R : xQ} (hs : bSem amGG P 84 bTT k s) (hd : s.2.2.1 ≤ d) (hH : bHk 84 bTT hp) (hP : P hp) (ha : bArgs 84 s.1 av) (hf : bFacts hp s.2.1) (hc : s.2.2.2.2.2 = [(none, fs)]) (ht : s.2.2.2.2.1 = [])
    (hR : ∀ hp1, bHk 84 bTT hp1 → P hp1 → bFr s.2.2.2.1 hp hp1 → R (.inl none) hp1) : xK d k av hp R := by
  refine xsem hs hd hH hP ha hf (fun y hp1 g1 g2 g3 g4 => ?_)
  match y with
  | .inl v =>
    obtain ⟨c, h1, h2, h3⟩ := g4
    rw [hc] at h1
    have h1 : c = (none, fs) := by simpa using h1
    subst h1
    match v, h2 with
    | none, _ => exact hR hp1 g1 g2 g3
  | .inr E =>
    have g4 : E ∈ s.2.2.2.2.1 := g4
    rw [ht] at g4
    cases g4
theorem a66 : bYr 84 (.inr (.inr [66])) (.ref 66) := ⟨66, rfl, by decide, by simp⟩
theorem aFI (x : Int32) : bYr 84 (.inl (0, 4294967295)) (.int x) := ⟨x, rfl, Nat.zero_le _, bOff_le x⟩
theorem noF (hp : amH) : bFacts hp [] := fun f hf => by cases hf
theorem k_fails2 {d : Nat} {hp : amH} {R : xQ} {v e : Int32} (hH : bHk 84 bTT hp) (hP : P0 hp) (hv : v.toInt = 0 ∨ v.toInt = 1) (hR : ∀ hp1, bHk 84 bTT hp1 → P0 hp1 → bFr [(66, 7)] hp hp1 → R (.inl (some (.int v))) hp1) : xK d 197 [.ref 66, .int v, .int e] hp R :=
  k_fails hH hv (fun hp1 h1 h2 => hR hp1 h1 (P0_W (by decide) h2 hP) h2)
theorem k_lt {d : Nat} {hp : amH} {R : xQ} (hH : bHk 84 bTT hp) (hP : P0 hp) (hR : ∀ hp1, bHk 84 bTT hp1 → P0 hp1 → bFr bLT hp hp1 → R (.inl none) hp1) : xK (d + 1) 211 [.ref 66] hp R :=
  xsemV h211_s (Nat.le_add_left 1 d) hH hP ⟨a66, trivial⟩ (noF hp) rfl rfl hR
theorem k_num {d : Nat} {hp : amH} {R : xQ} {m : Int32} (hH : bHk 84 bTT hp) (hP : P0 hp) (hR : ∀ z : Int32, -1 ≤ z.toInt ∧ z.toInt ≤ 34 → ∀ hp1, bHk 84 bTT hp1 → P0 hp1 → bFr [] hp hp1 → R (.inl (some (.int z))) hp1) : xK d 212 [.ref 66, .int m] hp R :=
  xsem1 (bQ6_s bf_4 (List.mem_of_getElem? (i := 129) rfl)) (Nat.zero_le d) hH hP ⟨a66, aFI m, trivial⟩ (noF hp) rfl rfl (fun z hp1 h1 h2 h3 h4 h5 => hR z (by omega) hp1 h1 h2 h3)
theorem u233 : bUp 0 am_m233.1 = true := by decide +kernel
theorem k_turned {d : Nat} {hp : amH} {R : xQ} {a b : Int32} (hH : bHk 84 bTT hp) (hP : P0 hp) (a1 : 0 ≤ a.toInt) (a2 : a.toInt ≤ 100) (b1 : 0 ≤ b.toInt) (b2 : b.toInt ≤ 100) (hR : ∀ z : Int32, z.toInt = (a.toInt + b.toInt) % rN hp 67 0 ∧ 0 ≤ z.toInt ∧ z.toInt < rN hp 67 0 → R (.inl (some (.int z))) hp) : xK (d + 1) 233 [.ref 66, .int a, .int b] hp R := by
  have q1 := hP.1.1
  have q2 := hP.1.2.1
  refine xin (M := am_m233) rfl rfl rfl ?_
  refine xild 1 ⟨u233, _, rfl⟩ rfl rfl ?_
  refine xild 2 ⟨u233, _, rfl⟩ rfl rfl ?_
  refine xadd 3 _ ⟨u233, _, rfl⟩ rfl rfl (by omega) (by omega) (fun z2 h2 => ?_)
  refine xald 4 ⟨u233, _, rfl⟩ rfl rfl ?_
  refine xcall 7 [.ref 66] [.int _] hH ⟨u233, _, rfl⟩ rfl rfl rfl rfl rfl (k_points hH (fun z4 h4 => ⟨_, rfl, ?_⟩))
  refine xrem 8 _ ⟨u233, _, rfl⟩ rfl (by omega) (by omega) rfl (fun z7 h7 => ?_)
  have g1 := Int.emod_nonneg z2.toInt (b := z4.toInt) (by omega)
  have g2 := Int.emod_lt_of_pos z2.toInt (b := z4.toInt) (by omega)
  refine xret ⟨u233, _, rfl⟩ rfl (hR _ ⟨by rw [h7, h2, h4], by omega, by omega⟩)
end
/-! ##### 17.g.mut ##### -/
section
/-! ===== ways by hand: calls that change the system (1) ===== -/
theorem lAt_pad : ∀ (L : List (Option Value)) (m k : Nat) (v : Value), lAt (L ++ List.replicate m none) k = some (some v) → lAt L k = some (some v)
  | [], m, k, v, e => by
    rcases lAt_rep m k (none : Option Value) with h | h <;> rw [List.nil_append, h] at e <;> cases e
  | c :: r, m, 0, v, e => e
  | c :: r, m, k + 1, v, e => lAt_pad r m k v e
theorem xpad (m : Nat) {M : amM} {pc d : Nat} {L : List (Option Value)} {st : List Value} {hp : amH} {Q : xQ} (hw : xV d M pc (L ++ List.replicate m none) st hp Q) : xV d M pc L st hp Q := xdrop (lAt_pad L m) hw
theorem u276 : bUp 0 am_m276.1 = true := by decide +kernel
theorem u269 : bUp 0 am_m269.1 = true := by decide +kernel
theorem u272 : bUp 0 am_m272.1 = true := by decide +kernel
theorem u278 : bUp 0 am_m278.1 = true := by decide +kernel
theorem u275 : bUp 0 am_m275.1 = true := by decide +kernel
end
/-! ##### 17.h.lst ##### -/
section
/-! ===== ways by hand: laysTriples once more: all triples, in order ===== -/
noncomputable def b3 (x y z : Nat) : Int := ((2 ^ x + 2 ^ y + 2 ^ z : Nat) : Int)
theorem msk_b3 : ∀ x y z : Fin 15, x < y → y < z → (msk (Int32.ofNat x) (Int32.ofNat y) (Int32.ofNat z)).toInt = b3 x y z ∧ 0 ≤ b3 x y z ∧ b3 x y z ≤ 32767 := by decide +kernel
noncomputable def LJ (r : Nat → Int) (hp : amH) (N m : Nat) : Prop := rN hp 66 12 = (m : Int) ∧ (∃ L, gL r N L ∧ L.length = 3 * m) ∧
  (∀ k, k < m → ∃ x y z : Nat, x < y ∧ y < z ∧ z < 15 ∧ r (4 + 15 * x + y) = (z : Int) ∧ rN hp 72 k = (x : Int) ∧ rN hp 73 k = (y : Int) ∧ rN hp 74 k = (z : Int) ∧ rN hp 75 k = b3 x y z ∧ 15 * x + y < N) ∧
  (∀ k l, k < l → l < m → 15 * rN hp 72 k + rN hp 73 k < 15 * rN hp 72 l + rN hp 73 l) ∧
  (∀ x y z : Nat, x < y → y < z → z < 15 → r (4 + 15 * x + y) = (z : Int) → 15 * x + y < N → ∃ k, k < m ∧ rN hp 72 k = (x : Int) ∧ rN hp 73 k = (y : Int) ∧ rN hp 74 k = (z : Int))
theorem LJ_up {r : Nat → Int} {hp : amH} {N N1 m : Nat} (h : LJ r hp N m) (hN : N ≤ N1) (hn : ∀ x y z : Nat, x < y → y < z → z < 15 → r (4 + 15 * x + y) = (z : Int) → 15 * x + y < N1 → 15 * x + y < N) : LJ r hp N1 m := by
  obtain ⟨h1, ⟨L, h2, h3⟩, h4, h5, h6⟩ := h
  refine ⟨h1, ⟨L, gL_mono h2 hN, h3⟩, fun k hk => ?_, h5, fun x y z a b c d e => h6 x y z a b c d (hn x y z a b c d e)⟩
  obtain ⟨x, y, z, g1, g2, g3, g4, g5, g6, g7, g8, g9⟩ := h4 k hk
  exact ⟨x, y, z, g1, g2, g3, g4, g5, g6, g7, g8, by omega⟩
theorem LJ_35 {r : Nat → Int} {hp : amH} {N m : Nat} (h : LJ r hp N m) : m ≤ 35 := by
  obtain ⟨-, ⟨L, h2, h3⟩, -⟩ := h
  have := gL_len h2
  omega
theorem LJ_add {r : Nat → Int} (hV : Vf r) {hp hp1 : amH} {x y z m : Nat} (h : LJ r hp (15 * x + y) m) (hxy : x < y) (hyz : y < z) (hz : z < 15) (e : r (4 + 15 * x + y) = (z : Int)) (k12 : rN hp1 66 12 = ((m + 1 : Nat) : Int)) (k72 : rN hp1 72 m = (x : Int)) (k73 : rN hp1 73 m = (y : Int)) (k74 : rN hp1 74 m = (z : Int)) (k75 : rN hp1 75 m = b3 x y z)
    (hk : ∀ c k, 72 ≤ c → c ≤ 75 → ¬ k = m → rN hp1 c k = rN hp c k) : LJ r hp1 (15 * x + y + 1) (m + 1) := by
  obtain ⟨h1, ⟨L, h2, h3⟩, h4, h5, h6⟩ := h
  have hL2 := gL_add hV h2 hxy hyz hz e (Nat.le_refl _)
  refine ⟨k12, ⟨_, hL2, by simp only [List.length_cons]; omega⟩, fun k hkm => ?_, fun k l hkl hl => ?_, fun a b c g1 g2 g3 g4 g5 => ?_⟩
  · by_cases ek : k = m
    · subst ek
      exact ⟨x, y, z, hxy, hyz, hz, e, k72, k73, k74, k75, by omega⟩
    · obtain ⟨a, b, c, g1, g2, g3, g4, g5, g6, g7, g8, g9⟩ := h4 k (by omega)
      exact ⟨a, b, c, g1, g2, g3, g4, by rw [hk 72 k (by omega) (by omega) ek, g5], by rw [hk 73 k (by omega) (by omega) ek, g6], by rw [hk 74 k (by omega) (by omega) ek, g7], by rw [hk 75 k (by omega) (by omega) ek, g8], by omega⟩
  · rw [hk 72 k (by omega) (by omega) (by omega), hk 73 k (by omega) (by omega) (by omega)]
    by_cases el : l = m
    · subst el
      obtain ⟨a, b, c, g1, g2, g3, g4, g5, g6, g7, g8, g9⟩ := h4 k (by omega)
      omega
    · rw [hk 72 l (by omega) (by omega) el, hk 73 l (by omega) (by omega) el]
      exact h5 k l hkl (by omega)
  · by_cases es : 15 * a + b < 15 * x + y
    · obtain ⟨k, q1, q2, q3, q4⟩ := h6 a b c g1 g2 g3 g4 es
      exact ⟨k, by omega, by rw [hk 72 k (by omega) (by omega) (by omega), q2], by rw [hk 73 k (by omega) (by omega) (by omega), q3], by rw [hk 74 k (by omega) (by omega) (by omega), q4]⟩
    · have ea : a = x := by omega
      have eb : b = y := by omega
      subst ea
      subst eb
      have ec : c = z := by omega
      subst ec
      exact ⟨m, by omega, k72, k73, k74⟩
theorem u211 : bUp 0 am_m211.1 = true := by decide +kernel
theorem lj_42 {d : Nat} {r : Nat → Int} (hV : Vf r) {hp0 hp : amH} {R : xQ} {a b c : Int32} {x y z m : Nat} (hH : bHk 84 bTT hp) (hF : bFr bLT hp0 hp) (hI : LJ r hp (15 * x + y) m) (hxy : x < y) (hyz : y < z) (hz : z < 15) (e : r (4 + 15 * x + y) = (z : Int)) (ha : a.toInt = (x : Int)) (hb : b.toInt = (y : Int)) (hc : c.toInt = (z : Int))
    (hw : ∀ (hp1 : amH) (b1 : Int32), bHk 84 bTT hp1 → bFr bLT hp0 hp1 → LJ r hp1 (15 * x + y + 1) (m + 1) → b1.toInt = ((y + 1 : Nat) : Int) → xV (d + 1) am_m211 19 [some (.ref 66), some (.int a), some (.int b1), some (.int c)] [] hp1 R) :
    xV (d + 1) am_m211 42 [some (.ref 66), some (.int a), some (.int b), some (.int c)] [] hp R := by
  have hm : m ≤ 34 := by
    obtain ⟨-, ⟨L, h2, h3⟩, -⟩ := hI
    have := gL_len (gL_add hV h2 hxy hyz hz e (Nat.le_refl _))
    simp only [List.length_cons] at this
    omega
  have hM := hI.1
  refine xald 43 ⟨u211, _, rfl⟩ rfl rfl ?_
  refine xgetR 46 72 hH ⟨u211, _, rfl⟩ rfl rfl ?_
  refine xald 47 ⟨u211, _, rfl⟩ rfl rfl ?_
  refine xgetI 50 hH ⟨u211, _, rfl⟩ rfl rfl (fun z47 h47 => ?_)
  have o47 : z47.toInt = (m : Int) := by rw [h47, hM]
  refine xild 51 ⟨u211, _, rfl⟩ rfl rfl ?_
  refine xiast 52 m hH ⟨u211, _, rfl⟩ rfl (by decide) rfl (by omega) (by omega) (by omega) (by omega) (fun hp51 hH51 U51 => ?_)
  refine xald 53 ⟨u211, _, rfl⟩ rfl rfl ?_
  refine xgetR 56 73 hH51 ⟨u211, _, rfl⟩ rfl rfl ?_
  refine xald 57 ⟨u211, _, rfl⟩ rfl rfl ?_
  refine xgetI 60 hH51 ⟨u211, _, rfl⟩ rfl rfl (fun z57 h57 => ?_)
  have o57 : z57.toInt = (m : Int) := by rw [h57, rU_ne U51 (by omega), hM]
  refine xild 61 ⟨u211, _, rfl⟩ rfl rfl ?_
  refine xiast 62 m hH51 ⟨u211, _, rfl⟩ rfl (by decide) rfl (by omega) (by omega) (by omega) (by omega) (fun hp61 hH61 U61 => ?_)
  refine xald 63 ⟨u211, _, rfl⟩ rfl rfl ?_
  refine xgetR 66 74 hH61 ⟨u211, _, rfl⟩ rfl rfl ?_
  refine xald 67 ⟨u211, _, rfl⟩ rfl rfl ?_
  refine xgetI 70 hH61 ⟨u211, _, rfl⟩ rfl rfl (fun z67 h67 => ?_)
  have o67 : z67.toInt = (m : Int) := by rw [h67, rU_ne U61 (by omega), rU_ne U51 (by omega), hM]
  refine xild 71 ⟨u211, _, rfl⟩ rfl rfl ?_
  refine xiast 72 m hH61 ⟨u211, _, rfl⟩ rfl (by decide) rfl (by omega) (by omega) (by omega) (by omega) (fun hp71 hH71 U71 => ?_)
  refine xald 73 ⟨u211, _, rfl⟩ rfl rfl ?_
  refine xgetR 76 75 hH71 ⟨u211, _, rfl⟩ rfl rfl ?_
  refine xald 77 ⟨u211, _, rfl⟩ rfl rfl ?_
  refine xgetI 80 hH71 ⟨u211, _, rfl⟩ rfl rfl (fun z77 h77 => ?_)
  have o77 : z77.toInt = (m : Int) := by rw [h77, rU_ne U71 (by omega), rU_ne U61 (by omega), rU_ne U51 (by omega), hM]
  refine xcst 81 (1) ⟨u211, _, rfl⟩ rfl (by decide) (fun z80 h80 => ?_)
  refine xild 82 ⟨u211, _, rfl⟩ rfl rfl ?_
  refine xshl 83 ⟨u211, _, rfl⟩ rfl ?_
  refine xcst 84 (1) ⟨u211, _, rfl⟩ rfl (by decide) (fun z83 h83 => ?_)
  refine xild 85 ⟨u211, _, rfl⟩ rfl rfl ?_
  refine xshl 86 ⟨u211, _, rfl⟩ rfl ?_
  refine xor_ 87 ⟨u211, _, rfl⟩ rfl ?_
  refine xcst 88 (1) ⟨u211, _, rfl⟩ rfl (by decide) (fun z87 h87 => ?_)
  refine xild 89 ⟨u211, _, rfl⟩ rfl rfl ?_
  refine xshl 90 ⟨u211, _, rfl⟩ rfl ?_
  refine xor_ 91 ⟨u211, _, rfl⟩ rfl ?_
  have m1 : z80 = 1 := x_eq.mpr h80
  have m2 : z83 = 1 := x_eq.mpr h83
  have m3 : z87 = 1 := x_eq.mpr h87
  subst m1
  subst m2
  subst m3
  have hmk := msk_b3 ⟨x, by omega⟩ ⟨y, by omega⟩ ⟨z, by omega⟩ hxy hyz
  dsimp only at hmk
  rw [← i_of ha (by omega), ← i_of hb (by omega), ← i_of hc hz] at hmk
  unfold msk at hmk
  refine xiast 92 m hH71 ⟨u211, _, rfl⟩ rfl (by decide) rfl (by omega) (by omega) (by omega) (by omega) (fun hp91 hH91 U91 => ?_)
  refine xald 93 ⟨u211, _, rfl⟩ rfl rfl ?_
  refine xdup 94 ⟨u211, _, rfl⟩ rfl rfl ?_
  refine xgetI 97 hH91 ⟨u211, _, rfl⟩ rfl rfl (fun z94 h94 => ?_)
  have o94 : z94.toInt = (m : Int) := by rw [h94, rU_ne U91 (by omega), rU_ne U71 (by omega), rU_ne U61 (by omega), rU_ne U51 (by omega), hM]
  refine xcst 98 (1) ⟨u211, _, rfl⟩ rfl (by decide) (fun z97 h97 => ?_)
  refine xadd 99 _ ⟨u211, _, rfl⟩ rfl rfl (by omega) (by omega) (fun z98 h98 => ?_)
  refine xputI 102 hH91 ⟨u211, _, rfl⟩ rfl rfl ⟨rfl, rfl⟩ (by omega) (by omega) (fun hp99 hH99 U99 => ?_)
  refine xinc 105 (1) ⟨u211, _, rfl⟩ rfl rfl rfl (by decide) (by omega) (by omega) (fun z102 h102 => ?_)
  refine xgoto ⟨u211, _, rfl⟩ ?_
  have F99 : bFr bLT hp0 hp99 := hF.trans ((rU_fr U51 (bIn_all (by decide) m)).trans ((rU_fr U61 (bIn_all (by decide) m)).trans ((rU_fr U71 (bIn_all (by decide) m)).trans ((rU_fr U91 (bIn_all (by decide) m)).trans (rU_fr U99 (by decide))))))
  refine hw hp99 z102 hH99 F99 (LJ_add hV hI hxy hyz hz e (by rw [U99.1]; omega) ?_ ?_ ?_ ?_ (fun c k hc1 hc2 hk => ?_)) (by omega)
  · rw [rU_ne U99 (by omega), rU_ne U91 (by omega), rU_ne U71 (by omega), rU_ne U61 (by omega), U51.1, ha]
  · rw [rU_ne U99 (by omega), rU_ne U91 (by omega), rU_ne U71 (by omega), U61.1, hb]
  · rw [rU_ne U99 (by omega), rU_ne U91 (by omega), U71.1, hc]
  · rw [rU_ne U99 (by omega), U91.1, hmk.1]
  · rw [rU_ne U99 (by omega), rU_ne U91 (by omega), rU_ne U71 (by omega), rU_ne U61 (by omega), rU_ne U51 (by omega)]
theorem lj_in {d : Nat} {hp0 : amH} (hV : Vf (rN hp0 67)) {R : xQ} {x : Nat} {a : Int32} (ha : a.toInt = (x : Int))
    (hQ : ∀ (hp : amH) (a1 : Int32) (m : Nat) (v w : Option Value), bHk 84 bTT hp → bFr bLT hp0 hp → LJ (rN hp0 67) hp (15 * x + 15) m → a1.toInt = ((x + 1 : Nat) : Int) → xV (d + 1) am_m211 7 [some (.ref 66), some (.int a1), v, w] [] hp R) :
    ∀ (j : Nat) (y m : Nat) (b : Int32) (v : Option Value) (hp : amH), bHk 84 bTT hp → bFr bLT hp0 hp → LJ (rN hp0 67) hp (15 * x + y) m → y + j = 15 → x < y → b.toInt = (y : Int) → xV (d + 1) am_m211 19 [some (.ref 66), some (.int a), some (.int b), v] [] hp R := by
  intro j
  induction j using Nat.strongRecOn with
  | ind j ih =>
    intro y m b v hp hH hF hI hj hxy hb
    have q1 := hV.1
    have q2 := hV.2.1
    have e0 : rN hp 67 0 = rN hp0 67 0 := r_fr hF rfl
    refine xild 20 ⟨u211, _, rfl⟩ rfl rfl ?_
    refine xald 21 ⟨u211, _, rfl⟩ rfl rfl ?_
    refine xcall 24 [.ref 66] [.int _] hH ⟨u211, _, rfl⟩ rfl rfl rfl rfl rfl (k_points hH (fun z21 h21 => ⟨_, rfl, ?_⟩))
    refine xcmp_ge 27 ⟨u211, _, rfl⟩ rfl (fun c24 => ?_) (fun c24 => ?_)
    · refine xinc 111 (1) ⟨u211, _, rfl⟩ rfl rfl rfl (by decide) (by omega) (by omega) (fun z108 h108 => ?_)
      refine xgoto ⟨u211, _, rfl⟩ ?_
      exact hQ hp z108 m _ _ hH hF (LJ_up hI (by omega) (fun x1 y1 z1 g1 g2 g3 g4 g5 => by
          obtain ⟨k1, k2, -⟩ := Vf_at hV (a := x1) (b := y1) (by omega) (by omega) g4
          omega)) (by omega)
    · refine xald 28 ⟨u211, _, rfl⟩ rfl rfl ?_
      refine xild 29 ⟨u211, _, rfl⟩ rfl rfl ?_
      refine xild 30 ⟨u211, _, rfl⟩ rfl rfl ?_
      refine xcall 33 [.ref 66, .int _, .int _] [] hH ⟨u211, _, rfl⟩ rfl rfl rfl rfl rfl (k_third hH (by omega) (by omega) (by omega) (by omega) (fun z30 h30 => ⟨_, rfl, ?_⟩))
      have eT : tT hp a.toInt.toNat b.toInt.toNat = rN hp0 67 (4 + 15 * x + y) := by
        rw [show a.toInt.toNat = x by omega, show b.toInt.toNat = y by omega]
        exact r_fr hF rfl
      refine xist 34 ⟨u211, _, rfl⟩ rfl rfl ?_
      refine xild 35 ⟨u211, _, rfl⟩ rfl rfl ?_
      refine xild 36 ⟨u211, _, rfl⟩ rfl rfl ?_
      refine xcmp_ge 39 ⟨u211, _, rfl⟩ rfl (fun c36 => ?_) (fun c36 => ?_)
      · rcases hV.2.2 x y (by omega) (by omega) with g | ⟨c, g1, g2, g3, g4, g5, g6, g7, -⟩
        · rw [eT, g] at h30
          omega
        · have hp15 := hV.2.1
          refine lj_42 hV hH hF hI (z := c) hxy (by omega) (by omega) g1 ha hb (by omega) (fun hp1 b1 k1 k2 k3 k4 => ?_)
          exact ih (j - 1) (by omega) (y + 1) (m + 1) _ _ _ k1 k2 k3 (by omega) (by omega) k4
      · refine xgoto ⟨u211, _, rfl⟩ ?_
        refine xinc 105 (1) ⟨u211, _, rfl⟩ rfl rfl rfl (by decide) (by omega) (by omega) (fun z102 h102 => ?_)
        refine xgoto ⟨u211, _, rfl⟩ ?_
        exact ih (j - 1) (by omega) (y + 1) m _ _ _ hH hF (LJ_up hI (by omega) (fun x1 y1 z1 g1 g2 g3 g4 g5 => by
          rcases Nat.lt_or_ge (15 * x1 + y1) (15 * x + y) with q | q
          · exact q
          · have e1 : x1 = x := by omega
            have e2 : y1 = y := by omega
            subst e1
            subst e2
            rw [eT, g4] at h30
            omega)) (by omega) (by omega) (by omega)
theorem lj_out {d : Nat} {hp0 : amH} (hV : Vf (rN hp0 67)) {R : xQ} (hQ : ∀ (hp : amH) (m : Nat), bHk 84 bTT hp → bFr bLT hp0 hp → LJ (rN hp0 67) hp 225 m → R (.inl none) hp) :
    ∀ (j : Nat) (x m : Nat) (a : Int32) (v w : Option Value) (hp : amH), bHk 84 bTT hp → bFr bLT hp0 hp → LJ (rN hp0 67) hp (15 * x) m → x + j = 15 → a.toInt = (x : Int) → xV (d + 1) am_m211 7 [some (.ref 66), some (.int a), v, w] [] hp R := by
  intro j
  induction j using Nat.strongRecOn with
  | ind j ih =>
    intro x m a v w hp hH hF hI hj ha
    have q1 := hV.1
    have q2 := hV.2.1
    have e0 : rN hp 67 0 = rN hp0 67 0 := r_fr hF rfl
    refine xild 8 ⟨u211, _, rfl⟩ rfl rfl ?_
    refine xald 9 ⟨u211, _, rfl⟩ rfl rfl ?_
    refine xcall 12 [.ref 66] [.int _] hH ⟨u211, _, rfl⟩ rfl rfl rfl rfl rfl (k_points hH (fun z9 h9 => ⟨_, rfl, ?_⟩))
    refine xcmp_ge 15 ⟨u211, _, rfl⟩ rfl (fun c12 => ?_) (fun c12 => ?_)
    · refine xretV ⟨u211, _, rfl⟩ rfl (hQ hp m hH hF (LJ_up hI (by omega) (fun x1 y1 z1 g1 g2 g3 g4 g5 => by
        obtain ⟨k1, k2, -⟩ := Vf_at hV (a := x1) (b := y1) (by omega) (by omega) g4
        omega)))
    · refine xild 16 ⟨u211, _, rfl⟩ rfl rfl ?_
      refine xcst 17 (1) ⟨u211, _, rfl⟩ rfl (by decide) (fun z16 h16 => ?_)
      refine xadd 18 _ ⟨u211, _, rfl⟩ rfl rfl (by omega) (by omega) (fun z17 h17 => ?_)
      refine xist 19 ⟨u211, _, rfl⟩ rfl rfl ?_
      refine lj_in hV ha (fun hp1 a1 m1 v1 w1 k1 k2 k3 k4 => ?_) (14 - x) (x + 1) m _ _ _ hH hF (LJ_up hI (by omega) (fun x1 y1 z1 g1 g2 g3 g4 g5 => by omega)) (by omega) (by omega) (by omega)
      exact ih (j - 1) (by omega) (x + 1) m1 _ _ _ _ k1 k2 k3 (by omega) k4
/-- the list of triples is the system's -/
noncomputable def Lst (hp : amH) (m : Nat) : Prop := rN hp 66 12 = (m : Int) ∧ m ≤ 35 ∧
  (∀ k, k < m → ∃ x y z : Nat, x < y ∧ y < z ∧ z < 15 ∧ tT hp x y = (z : Int) ∧ rN hp 72 k = (x : Int) ∧ rN hp 73 k = (y : Int) ∧ rN hp 74 k = (z : Int) ∧ rN hp 75 k = b3 x y z) ∧
  (∀ k l, k < l → l < m → 15 * rN hp 72 k + rN hp 73 k < 15 * rN hp 72 l + rN hp 73 l) ∧
  (∀ x y z : Nat, x < y → y < z → z < 15 → tT hp x y = (z : Int) → ∃ k, k < m ∧ rN hp 72 k = (x : Int) ∧ rN hp 73 k = (y : Int) ∧ rN hp 74 k = (z : Int))
theorem LJ_Lst {hp0 hp : amH} {m : Nat} (hF : bFr bLT hp0 hp) (h : LJ (rN hp0 67) hp 225 m) : Lst hp m := by
  have h35 := LJ_35 h
  obtain ⟨h1, -, h4, h5, h6⟩ := h
  have e : ∀ i, rN hp 67 i = rN hp0 67 i := fun i => r_fr hF rfl
  refine ⟨h1, h35, fun k hk => ?_, h5, fun x y z g1 g2 g3 g4 => h6 x y z g1 g2 g3 (by rw [← e]; exact g4) (by omega)⟩
  obtain ⟨x, y, z, g1, g2, g3, g4, g5, g6, g7, g8, -⟩ := h4 k hk
  exact ⟨x, y, z, g1, g2, g3, (e _).trans g4, g5, g6, g7, g8⟩
theorem k_lst {d : Nat} {hp : amH} {R : xQ} (hH : bHk 84 bTT hp) (hP : P0 hp) (hR : ∀ (hp1 : amH) (m : Nat), bHk 84 bTT hp1 → P0 hp1 → bFr bLT hp hp1 → Lst hp1 m → R (.inl none) hp1) : xK (d + 1) 211 [.ref 66] hp R := by
  refine xin (M := am_m211) rfl rfl rfl ?_
  refine xald 1 ⟨u211, _, rfl⟩ rfl rfl ?_
  refine xcst 2 (0) ⟨u211, _, rfl⟩ rfl (by decide) (fun z1 h1 => ?_)
  refine xputI 5 hH ⟨u211, _, rfl⟩ rfl rfl ⟨rfl, rfl⟩ (by omega) (by omega) (fun hp2 hH2 U2 => ?_)
  refine xcst 6 (0) ⟨u211, _, rfl⟩ rfl (by decide) (fun z5 h5 => ?_)
  refine xist 7 ⟨u211, _, rfl⟩ rfl rfl ?_
  refine xpad 2 ?_
  refine lj_out hP.1 (fun hp1 m k1 k2 k3 => hR hp1 m k1 (P0_fr hp hp1 (fun c k hc => k2 c k (LT_Pr hc)) hP) k2 (LJ_Lst k2 k3)) 15 0 0 _ _ _ hp2 hH2 (rU_fr U2 (by decide)) ⟨by rw [U2.1, h1]; rfl, ⟨[], gL_nil _ _, rfl⟩, fun k hk => by omega, fun k l _ hl => by omega, fun x y z _ _ _ _ g => by omega⟩ (by omega) (by omega)
end
