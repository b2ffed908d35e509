/-! ##### 17.c.leaf ##### -/
section
/-! ===== ways by hand: the reference's leaves ===== -/
def tT (hp : amH) (u v : Nat) : Int := rN hp 67 (4 + 15 * u + v)
abbrev pr (x y z u v : Nat) : Prop := ¬ u = v ∧ (u = x ∨ u = y ∨ u = z) ∧ (v = x ∨ v = y ∨ v = z)
theorem k_points {d : Nat} {hp : amH} {R : xQ} (hH : bHk 84 bTT hp) (hR : ∀ z : Int32, z.toInt = rN hp 67 0 → R (.inl (some (.int z))) hp) : xK d 203 [.ref 66] hp R := by
  obtain ⟨w, hw, hr⟩ := r_mW hH
  exact ⟨am_m203, rfl, 6, .inl (some (.int (w.getD 0 0))), hp, m_points hw 0 d 0 0, hR _ (hr 0 (by omega)).symm⟩
theorem k_third {d : Nat} {hp : amH} {R : xQ} {a b : Int32} (hH : bHk 84 bTT hp) (a1 : 0 ≤ a.toInt) (a2 : a.toInt < 15) (b1 : 0 ≤ b.toInt) (b2 : b.toInt < 15) (hR : ∀ z : Int32, z.toInt = tT hp a.toInt.toNat b.toInt.toNat → R (.inl (some (.int z))) hp) : xK d 204 [.ref 66, .int a, .int b] hp R := by
  obtain ⟨w, hw, hr⟩ := r_mW hH
  exact ⟨am_m204, rfl, 12, .inl (some (.int (w.getD (4 + 15 * a.toInt.toNat + b.toInt.toNat) 0))), hp, m_thirdOf hw (x := a.toInt.toNat) (y := b.toInt.toNat) (by omega) (by omega) (by omega) (by omega) 0 d 0 0, hR _ (hr _ (by omega)).symm⟩
def cv (hp : amH) (u v : Nat) : Int := if tT hp u v = -1 then 0 else 1
theorem u208 : bUp 0 am_m208.1 = true := by decide +kernel
theorem u209 : bUp 0 am_m209.1 = true := by decide +kernel
theorem u210 : bUp 0 am_m210.1 = true := by decide +kernel
theorem k_cov {d : Nat} {hp : amH} {R : xQ} {a b : Int32} (hH : bHk 84 bTT hp) (a1 : 0 ≤ a.toInt) (a2 : a.toInt < 15) (b1 : 0 ≤ b.toInt) (b2 : b.toInt < 15) (hR : ∀ z : Int32, z.toInt = cv hp a.toInt.toNat b.toInt.toNat → R (.inl (some (.int z))) hp) : xK (d + 1) 208 [.ref 66, .int a, .int b] hp R := by
  refine xin (M := am_m208) rfl rfl rfl ?_
  unfold cv at hR
  refine xald 1 ⟨u208, _, rfl⟩ rfl rfl ?_
  refine xild 2 ⟨u208, _, rfl⟩ rfl rfl ?_
  refine xild 3 ⟨u208, _, rfl⟩ rfl rfl ?_
  refine xcall 6 [.ref 66, .int _, .int _] [] hH ⟨u208, _, rfl⟩ rfl rfl rfl rfl rfl (k_third hH (by omega) (by omega) (by omega) (by omega) (fun z3 h3 => ⟨_, rfl, ?_⟩))
  refine xcst 7 (-1) ⟨u208, _, rfl⟩ rfl (by decide) (fun z6 h6 => ?_)
  refine xcmp_ne 10 ⟨u208, _, rfl⟩ rfl (fun c7 => ?_) (fun c7 => ?_)
  · refine xcst 15 (1) ⟨u208, _, rfl⟩ rfl (by decide) (fun z14 h14 => ?_)
    exact xret ⟨u208, _, rfl⟩ rfl (hR _ (by rw [if_neg (by omega)]; exact h14))
  · refine xcst 11 (0) ⟨u208, _, rfl⟩ rfl (by decide) (fun z10 h10 => ?_)
    refine xgoto ⟨u208, _, rfl⟩ ?_
    exact xret ⟨u208, _, rfl⟩ rfl (hR _ (by rw [if_pos (by omega)]; exact h10))
theorem cv_01 (hp : amH) (u v : Nat) : 0 ≤ cv hp u v ∧ cv hp u v ≤ 1 := by
  unfold cv
  split <;> omega
theorem k_covin {d : Nat} {hp : amH} {R : xQ} {a b c : Int32} (hH : bHk 84 bTT hp) (a1 : 0 ≤ a.toInt) (a2 : a.toInt < 15) (b1 : 0 ≤ b.toInt) (b2 : b.toInt < 15) (c1 : 0 ≤ c.toInt) (c2 : c.toInt < 15) (hR : ∀ z : Int32, z.toInt = cv hp a.toInt.toNat b.toInt.toNat + cv hp b.toInt.toNat c.toInt.toNat + cv hp a.toInt.toNat c.toInt.toNat → R (.inl (some (.int z))) hp) : xK (d + 2) 209 [.ref 66, .int a, .int b, .int c] hp R := by
  refine xin (M := am_m209) rfl rfl rfl ?_
  have g1 := cv_01 hp a.toInt.toNat b.toInt.toNat
  have g2 := cv_01 hp b.toInt.toNat c.toInt.toNat
  have g3 := cv_01 hp a.toInt.toNat c.toInt.toNat
  refine xald 1 ⟨u209, _, rfl⟩ rfl rfl ?_
  refine xild 2 ⟨u209, _, rfl⟩ rfl rfl ?_
  refine xild 3 ⟨u209, _, rfl⟩ rfl rfl ?_
  refine xcall 6 [.ref 66, .int _, .int _] [] hH ⟨u209, _, rfl⟩ rfl rfl rfl rfl rfl (k_cov hH a1 a2 b1 b2 (fun z3 h3 => ⟨_, rfl, ?_⟩))
  refine xald 7 ⟨u209, _, rfl⟩ rfl rfl ?_
  refine xild 8 ⟨u209, _, rfl⟩ rfl rfl ?_
  refine xild 9 ⟨u209, _, rfl⟩ rfl rfl ?_
  refine xcall 12 [.ref 66, .int _, .int _] [.int _] hH ⟨u209, _, rfl⟩ rfl rfl rfl rfl rfl (k_cov hH b1 b2 c1 c2 (fun z9 h9 => ⟨_, rfl, ?_⟩))
  refine xadd 13 _ ⟨u209, _, rfl⟩ rfl rfl (by omega) (by omega) (fun z12 h12 => ?_)
  refine xald 14 ⟨u209, _, rfl⟩ rfl rfl ?_
  refine xild 15 ⟨u209, _, rfl⟩ rfl rfl ?_
  refine xild 16 ⟨u209, _, rfl⟩ rfl rfl ?_
  refine xcall 19 [.ref 66, .int _, .int _] [.int _] hH ⟨u209, _, rfl⟩ rfl rfl rfl rfl rfl (k_cov hH a1 a2 c1 c2 (fun z16 h16 => ⟨_, rfl, ?_⟩))
  refine xadd 20 _ ⟨u209, _, rfl⟩ rfl rfl (by omega) (by omega) (fun z19 h19 => ?_)
  exact xret ⟨u209, _, rfl⟩ rfl (hR _ (by omega))
/-- none of the three pairs is covered -/
def fr3 (hp : amH) (x y z : Nat) : Prop := tT hp x y = -1 ∧ tT hp y z = -1 ∧ tT hp x z = -1
theorem k_free {d : Nat} {hp : amH} {R : xQ} {a b c : Int32} (hH : bHk 84 bTT hp) (a1 : 0 ≤ a.toInt) (a2 : a.toInt < 15) (b1 : 0 ≤ b.toInt) (b2 : b.toInt < 15) (c1 : 0 ≤ c.toInt) (c2 : c.toInt < 15) (hR : ∀ z : Int32, (z.toInt = 1 ∧ fr3 hp a.toInt.toNat b.toInt.toNat c.toInt.toNat) ∨ (z.toInt = 0 ∧ ¬ fr3 hp a.toInt.toNat b.toInt.toNat c.toInt.toNat) → R (.inl (some (.int z))) hp) : xK (d + 3) 210 [.ref 66, .int a, .int b, .int c] hp R := by
  refine xin (M := am_m210) rfl rfl rfl ?_
  refine xald 1 ⟨u210, _, rfl⟩ rfl rfl ?_
  refine xild 2 ⟨u210, _, rfl⟩ rfl rfl ?_
  refine xild 3 ⟨u210, _, rfl⟩ rfl rfl ?_
  refine xild 4 ⟨u210, _, rfl⟩ rfl rfl ?_
  refine xcall 7 [.ref 66, .int _, .int _, .int _] [] hH ⟨u210, _, rfl⟩ rfl rfl rfl rfl rfl (k_covin hH a1 a2 b1 b2 c1 c2 (fun z4 h4 => ⟨_, rfl, ?_⟩))
  have key : z4.toInt = 0 ↔ fr3 hp a.toInt.toNat b.toInt.toNat c.toInt.toNat := by
    rw [h4]
    unfold fr3 cv
    split <;> split <;> split <;> (constructor <;> intro z <;> omega)
  refine xif_ne 10 ⟨u210, _, rfl⟩ rfl (fun c7 => ?_) (fun c7 => ?_)
  · refine xcst 15 (0) ⟨u210, _, rfl⟩ rfl (by decide) (fun z14 h14 => ?_)
    exact xretB ⟨u210, _, rfl⟩ rfl (Or.inl h14) (hR _ (Or.inr ⟨h14, fun z => c7 (key.mpr z)⟩))
  · refine xcst 11 (1) ⟨u210, _, rfl⟩ rfl (by decide) (fun z10 h10 => ?_)
    refine xgoto ⟨u210, _, rfl⟩ ?_
    exact xretB ⟨u210, _, rfl⟩ rfl (Or.inr h10) (hR _ (Or.inl ⟨h10, key.mp c7⟩))
/-! rows that systems are -/
theorem lay_get {w : List Int32} {x y u v : Nat} {c : Int32} (hx : x < 15) (hy : y < 15) (hu : u < 15) (hv : v < 15) (hw : w.length = 229) : (lay w x y c).getD (4 + 15 * u + v) 0 = if (u = x ∧ v = y) ∨ (u = y ∧ v = x) then c else w.getD (4 + 15 * u + v) 0 := by
  unfold lay
  simp only [List.getD_eq_getElem?_getD]
  by_cases h1 : u = y ∧ v = x
  · rw [if_pos (Or.inr h1), h1.1, h1.2, List.getElem?_set_self (by rw [List.length_set]; omega)]
    rfl
  · rw [List.getElem?_set_ne (by omega)]
    by_cases h2 : u = x ∧ v = y
    · rw [if_pos (Or.inl h2), h2.1, h2.2, List.getElem?_set_self (by omega)]
      rfl
    · rw [List.getElem?_set_ne (by omega), if_neg (by omega)]
theorem lay_get4 {w : List Int32} {x y i : Nat} {c : Int32} (hi : i < 4) : (lay w x y c).getD i 0 = w.getD i 0 := by
  unfold lay
  simp only [List.getD_eq_getElem?_getD]
  rw [List.getElem?_set_ne (by omega), List.getElem?_set_ne (by omega)]
/-- a triple's pairs get their third points, or none -/
theorem k_raw {d k : Nat} {hp : amH} {R : xQ} {av : List Value} {w1 : List Int32} {N : amM} (hN : amGG k = some N) (hH : bHk 84 bTT hp) (hrun : amRun amGG none 50 (d + 1) N N.1 0 (lv_args 0 av) [] hp 0 0 = some (.inl none, hp.set 67 (32, w1.map Value.int), 0, 0)) (hl : w1.length = 229)
    (hR : ∀ hp1, bHk 84 bTT hp1 → bFr [(67, 999)] hp hp1 → (∀ i, i < 229 → rN hp1 67 i = (w1.getD i 0).toInt) → R (.inl none) hp1) : xK (d + 1) k av hp R := by
  obtain ⟨w, h1, -, -⟩ := r_row hH (q := 67) (by decide) rfl
  obtain ⟨g1, g2, g3⟩ := r_set hH (q := 67) (dst := w) rfl h1 hl
  exact ⟨N, hN, 50, .inl none, _, hrun, hR _ g1 g2 g3⟩
theorem k_puts {d : Nat} {hp : amH} {R : xQ} {a b c : Int32} {x y z : Nat} (hH : bHk 84 bTT hp) (ha : a.toInt = (x : Int)) (hb : b.toInt = (y : Int)) (hc : c.toInt = (z : Int)) (hx : x < 15) (hy : y < 15) (hz : z < 15) (hxy : ¬ x = y) (hyz : ¬ y = z) (hxz : ¬ x = z)
    (hR : ∀ hp1, bHk 84 bTT hp1 → bFr [(67, 999)] hp hp1 → (∀ i, i < 4 → rN hp1 67 i = rN hp 67 i) → (∀ u v, u < 15 → v < 15 → tT hp1 u v = if pr x y z u v then (x : Int) + y + z - u - v else tT hp u v) → R (.inl none) hp1) : xK (d + 1) 206 [.ref 66, .int a, .int b, .int c] hp R := by
  obtain ⟨w, hw, hr⟩ := r_mW hH
  have hwl := hw.2.2
  refine k_raw (w1 := lay (lay (lay w x y c) y z a) x z b) (N := am_m206) rfl hH (m_puts hw ha hb hc hx hy hz 0 d 0 0) (by rw [lay_len, lay_len, lay_len]; exact hwl) (fun hp1 H1 F1 E1 => hR hp1 H1 F1 (fun i hi => ?_) (fun u v hu hv => ?_))
  · rw [E1 i (by omega), hr i (by omega), lay_get4 hi, lay_get4 hi, lay_get4 hi]
  · unfold tT
    rw [E1 _ (by omega), hr _ (by omega), lay_get hx hz hu hv (by rw [lay_len, lay_len]; exact hwl), lay_get hy hz hu hv (by rw [lay_len]; exact hwl), lay_get hx hy hu hv hwl]
    by_cases e1 : (u = x ∧ v = z) ∨ (u = z ∧ v = x)
    · rw [if_pos e1, if_pos (by omega), hb]
      omega
    · rw [if_neg e1]
      by_cases e2 : (u = y ∧ v = z) ∨ (u = z ∧ v = y)
      · rw [if_pos e2, if_pos (by omega), ha]
        omega
      · rw [if_neg e2]
        by_cases e3 : (u = x ∧ v = y) ∨ (u = y ∧ v = x)
        · rw [if_pos e3, if_pos (by omega), hc]
          omega
        · rw [if_neg e3, if_neg (by omega)]
theorem k_takes {d : Nat} {hp : amH} {R : xQ} {a b c : Int32} {x y z : Nat} (hH : bHk 84 bTT hp) (ha : a.toInt = (x : Int)) (hb : b.toInt = (y : Int)) (hc : c.toInt = (z : Int)) (hx : x < 15) (hy : y < 15) (hz : z < 15) (hxy : ¬ x = y) (hyz : ¬ y = z) (hxz : ¬ x = z)
    (hR : ∀ hp1, bHk 84 bTT hp1 → bFr [(67, 999)] hp hp1 → (∀ i, i < 4 → rN hp1 67 i = rN hp 67 i) → (∀ u v, u < 15 → v < 15 → tT hp1 u v = if pr x y z u v then -1 else tT hp u v) → R (.inl none) hp1) : xK (d + 1) 207 [.ref 66, .int a, .int b, .int c] hp R := by
  obtain ⟨w, hw, hr⟩ := r_mW hH
  have hwl := hw.2.2
  refine k_raw (w1 := lay (lay (lay w x y (-1)) y z (-1)) x z (-1)) (N := am_m207) rfl hH (m_takes hw ha hb hc hx hy hz 0 d 0 0) (by rw [lay_len, lay_len, lay_len]; exact hwl) (fun hp1 H1 F1 E1 => hR hp1 H1 F1 (fun i hi => ?_) (fun u v hu hv => ?_))
  · rw [E1 i (by omega), hr i (by omega), lay_get4 hi, lay_get4 hi, lay_get4 hi]
  · unfold tT
    have m1 : (-1 : Int32).toInt = -1 := by decide
    rw [E1 _ (by omega), hr _ (by omega), lay_get hx hz hu hv (by rw [lay_len, lay_len]; exact hwl), lay_get hy hz hu hv (by rw [lay_len]; exact hwl), lay_get hx hy hu hv hwl]
    by_cases e1 : (u = x ∧ v = z) ∨ (u = z ∧ v = x)
    · rw [if_pos e1, if_pos (by omega), m1]
    · rw [if_neg e1]
      by_cases e2 : (u = y ∧ v = z) ∨ (u = z ∧ v = y)
      · rw [if_pos e2, if_pos (by omega), m1]
      · rw [if_neg e2]
        by_cases e3 : (u = x ∧ v = y) ∨ (u = y ∧ v = x)
        · rw [if_pos e3, if_pos (by omega), m1]
        · rw [if_neg e3, if_neg (by omega)]
/-- systems: what stands at a pair -/
theorem Vf_t {hp : amH} (h : Vf (rN hp 67)) {a b c : Nat} (ha : a < 15) (hb : b < 15) (e : tT hp a b = (c : Int)) : (a : Int) < rN hp 67 0 ∧ (b : Int) < rN hp 67 0 ∧ (c : Int) < rN hp 67 0 ∧ a ≠ b ∧ a ≠ c ∧ b ≠ c ∧ tT hp b a = (c : Int) ∧ tT hp a c = (b : Int) ∧ tT hp b c = (a : Int) ∧ tT hp c a = (b : Int) ∧ tT hp c b = (a : Int) := by
  obtain ⟨h1, h2, h3, h4, h5, h6, h7, h8, h9⟩ := Vf_at h ha hb e
  have hp15 := h.2.1
  obtain ⟨-, -, -, -, -, -, k7, -⟩ := Vf_at h (a := a) (b := c) (c := b) ha (by omega) h8
  obtain ⟨-, -, -, -, -, -, l7, -⟩ := Vf_at h (a := b) (b := c) (c := a) hb (by omega) h9
  exact ⟨h1, h2, h3, h4, h5, h6, h7, h8, h9, k7, l7⟩
theorem Vf_m {hp : amH} (h : Vf (rN hp 67)) {a b : Nat} (ha : a < 15) (hb : b < 15) : tT hp a b = -1 ∨ ∃ c : Nat, c < 15 ∧ tT hp a b = (c : Int) := by
  rcases h.2.2 a b ha hb with g | ⟨c, g1, -, -, g4, -⟩
  · exact Or.inl g
  · have := h.2.1
    exact Or.inr ⟨c, by omega, g1⟩
theorem Vf_sym {hp : amH} (h : Vf (rN hp 67)) {a b : Nat} (ha : a < 15) (hb : b < 15) : tT hp b a = tT hp a b := by
  rcases Vf_m h ha hb with g | ⟨c, -, g⟩
  · rcases Vf_m h hb ha with k | ⟨c, -, k⟩
    · rw [g, k]
    · rw [(Vf_t h hb ha k).2.2.2.2.2.2.1, k]
  · rw [(Vf_t h ha hb g).2.2.2.2.2.2.1, g]
theorem P0_67 {hp hp1 : amH} (hF : bFr [(67, 999)] hp hp1) (hP : P0 hp) (hV : Vf (rN hp1 67)) : P0 hp1 := by
  have e : ∀ c i, ¬ c = 67 → rN hp1 c i = rN hp c i := fun c i hc => r_fr hF (by
    simp only [bIn]
    cases hb : Nat.beq 67 c
    · rfl
    · exact absurd (Nat.eq_of_beq_eq_true hb).symm hc)
  have e66 : ∀ i, rN hp1 66 i = rN hp 66 i := fun i => e 66 i (by decide)
  have e70 : ∀ i, rN hp1 70 i = rN hp 70 i := fun i => e 70 i (by decide)
  have e71 : ∀ i, rN hp1 71 i = rN hp 71 i := fun i => e 71 i (by decide)
  have e69 : ∀ i, rN hp1 69 i = rN hp 69 i := fun i => e 69 i (by decide)
  exact ⟨hV, fun z => Vf_eq (fun i _ => e70 i) (hP.2.1 (by rw [← e66]; exact z)), fun k hk hk2 => Vf_eq (fun i _ => e71 _) (hP.2.2.1 k (by rw [← e66]; exact hk) hk2), fun z => Vf_eq (fun i _ => e69 i) (hP.2.2.2 (by rw [← e69]; exact z))⟩
theorem pr_third {x y z a b : Nat} (hxy : ¬ x = y) (hyz : ¬ y = z) (hxz : ¬ x = z) (h : pr x y z a b) : ∃ c, (c = x ∨ c = y ∨ c = z) ∧ a + b + c = x + y + z ∧ ¬ a = c ∧ ¬ b = c := by
  obtain ⟨g1, g2, g3⟩ := h
  rcases g2 with rfl | rfl | rfl <;> rcases g3 with rfl | rfl | rfl <;> first | exact absurd rfl g1 | skip
  · exact ⟨z, Or.inr (Or.inr rfl), rfl, hxz, hyz⟩
  · exact ⟨y, Or.inr (Or.inl rfl), by omega, hxy, fun w => hyz w.symm⟩
  · exact ⟨z, Or.inr (Or.inr rfl), by omega, hyz, hxz⟩
  · exact ⟨x, Or.inl rfl, by omega, fun w => hxy w.symm, fun w => hxz w.symm⟩
  · exact ⟨y, Or.inr (Or.inl rfl), by omega, fun w => hyz w.symm, hxy⟩
  · exact ⟨x, Or.inl rfl, by omega, fun w => hxz w.symm, fun w => hxy w.symm⟩
theorem V_put {hp hp1 : amH} {x y z : Nat} (hV : Vf (rN hp 67)) (hx : (x : Int) < rN hp 67 0) (hy : (y : Int) < rN hp 67 0) (hz : (z : Int) < rN hp 67 0) (hxy : ¬ x = y) (hyz : ¬ y = z) (hxz : ¬ x = z) (hf : fr3 hp x y z)
    (h4 : ∀ i, i < 4 → rN hp1 67 i = rN hp 67 i) (hT : ∀ u v, u < 15 → v < 15 → tT hp1 u v = if pr x y z u v then (x : Int) + y + z - u - v else tT hp u v) : Vf (rN hp1 67) := by
  have hp15 := hV.2.1
  have h0 := h4 0 (by omega)
  have f2 : ∀ u v, pr x y z u v → tT hp u v = -1 := by
    intro u v ⟨g1, g2, g3⟩
    obtain ⟨f1, f2, f3⟩ := hf
    have s1 := Vf_sym hV (a := x) (b := y) (by omega) (by omega)
    have s2 := Vf_sym hV (a := y) (b := z) (by omega) (by omega)
    have s3 := Vf_sym hV (a := x) (b := z) (by omega) (by omega)
    rcases g2 with rfl | rfl | rfl <;> rcases g3 with rfl | rfl | rfl <;> first | exact absurd rfl g1 | assumption | omega
  have pV : ∀ u : Nat, (u = x ∨ u = y ∨ u = z) → (u : Int) < rN hp 67 0 := fun u h => by
    rcases h with h | h | h <;> rw [h] <;> assumption
  refine ⟨by rw [h0]; exact hV.1, by rw [h0]; exact hV.2.1, fun a b ha hb => ?_⟩
  have e := hT a b ha hb
  by_cases hp : pr x y z a b
  · right
    obtain ⟨c, c1, c2, c3, c4⟩ := pr_third hxy hyz hxz hp
    have q1 := pV a hp.2.1
    have q2 := pV b hp.2.2
    have q3 := pV c c1
    have pb : pr x y z b a := ⟨fun w => hp.1 w.symm, hp.2.2, hp.2.1⟩
    have pc : pr x y z a c := ⟨c3, hp.2.1, c1⟩
    have n1 := hp.1
    have e2 := hT b a hb ha
    have hc : c < 15 := by clear e hp pb pc c1 f2 pV e2; omega
    have e3 := hT a c ha hc
    rw [if_pos hp] at e
    rw [if_pos pb] at e2
    rw [if_pos pc] at e3
    clear hp pb pc c1 f2 pV
    have d1 : tT hp1 a b = (c : Int) := by rw [e]; omega
    have d2 : tT hp1 b a = (c : Int) := by rw [e2]; omega
    have d3 : tT hp1 a c = (b : Int) := by rw [e3]; omega
    exact ⟨c, d1, by rw [h0]; exact q1, by rw [h0]; exact q2, by rw [h0]; exact q3, n1, c3, c4, d2, d3⟩
  · rw [if_neg hp] at e
    rcases Vf_m hV ha hb with g | ⟨c, hc, g⟩
    · left
      have : tT hp1 a b = -1 := by rw [e, g]
      exact this
    · right
      obtain ⟨k1, k2, k3, k4, k5, k6, k7, k8, k9, k10, k11⟩ := Vf_t hV ha hb g
      have n1 : ¬ pr x y z b a := fun z1 => hp ⟨fun w => z1.1 w.symm, z1.2.2, z1.2.1⟩
      have n2 : ¬ pr x y z a c := fun z1 => by have := f2 _ _ z1; clear z1 n1 hp f2 pV; omega
      clear f2 pV
      have d1 : tT hp1 a b = (c : Int) := by rw [e, g]
      have d2 : tT hp1 b a = (c : Int) := by rw [hT b a hb ha, if_neg n1, k7]
      have d3 : tT hp1 a c = (b : Int) := by rw [hT a c ha hc, if_neg n2, k8]
      clear hp n1 n2
      exact ⟨c, d1, by omega, by omega, by omega, k4, k5, k6, d2, d3⟩
theorem V_take {hp hp1 : amH} {x y z : Nat} (hV : Vf (rN hp 67)) (hx : x < 15) (hy : y < 15) (ht : tT hp x y = (z : Int))
    (h4 : ∀ i, i < 4 → rN hp1 67 i = rN hp 67 i) (hT : ∀ u v, u < 15 → v < 15 → tT hp1 u v = if pr x y z u v then -1 else tT hp u v) : Vf (rN hp1 67) := by
  have hp15 := hV.2.1
  have h0 := h4 0 (by omega)
  obtain ⟨t1, t2, t3, t4, t5, t6, t7, t8, t9, t10, t11⟩ := Vf_t hV hx hy ht
  have f2 : ∀ u v, pr x y z u v → tT hp u v = (x : Int) + y + z - u - v := by
    intro u v ⟨g1, g2, g3⟩
    rcases g2 with rfl | rfl | rfl <;> rcases g3 with rfl | rfl | rfl <;> first | exact absurd rfl g1 | omega
  refine ⟨by rw [h0]; exact hV.1, by rw [h0]; exact hV.2.1, fun a b ha hb => ?_⟩
  have e := hT a b ha hb
  by_cases hp : pr x y z a b
  · left
    rw [if_pos hp] at e
    exact e
  · rw [if_neg hp] at e
    rcases Vf_m hV ha hb with g | ⟨c, hc, g⟩
    · left
      have : tT hp1 a b = -1 := by rw [e, g]
      exact this
    · right
      obtain ⟨k1, k2, k3, k4, k5, k6, k7, k8, k9, k10, k11⟩ := Vf_t hV ha hb g
      have n1 : ¬ pr x y z b a := fun z1 => hp (by omega)
      have n2 : ¬ pr x y z a c := fun z1 => by have := f2 _ _ z1; omega
      refine ⟨c, ?_, by omega, by omega, by omega, k4, k5, k6, ?_, ?_⟩
      · have : tT hp1 a b = (c : Int) := by rw [e, g]
        exact this
      · have : tT hp1 b a = (c : Int) := by rw [hT b a hb ha, if_neg n1, k7]
        exact this
      · have : tT hp1 a c = (b : Int) := by rw [hT a c ha hc, if_neg n2, k8]
        exact this
/-- a free triple is put: the system stays one -/
theorem k_put {d : Nat} {hp : amH} {R : xQ} {a b c : Int32} (hH : bHk 84 bTT hp) (hP : P0 hp) (a1 : 0 ≤ a.toInt) (a2 : a.toInt < rN hp 67 0) (b1 : 0 ≤ b.toInt) (b2 : b.toInt < rN hp 67 0) (c1 : 0 ≤ c.toInt) (c2 : c.toInt < rN hp 67 0) (hab : ¬ a.toInt = b.toInt) (hbc : ¬ b.toInt = c.toInt) (hac : ¬ a.toInt = c.toInt) (hf : fr3 hp a.toInt.toNat b.toInt.toNat c.toInt.toNat)
    (hR : ∀ hp1, bHk 84 bTT hp1 → P0 hp1 → bFr [(67, 999)] hp hp1 → (∀ i, i < 4 → rN hp1 67 i = rN hp 67 i) → (∀ u v, u < 15 → v < 15 → tT hp1 u v = if pr a.toInt.toNat b.toInt.toNat c.toInt.toNat u v then a.toInt + b.toInt + c.toInt - u - v else tT hp u v) → R (.inl none) hp1) : xK (d + 1) 206 [.ref 66, .int a, .int b, .int c] hp R := by
  have hp15 := hP.1.2.1
  refine k_puts hH (x := a.toInt.toNat) (y := b.toInt.toNat) (z := c.toInt.toNat) (by omega) (by omega) (by omega) (by omega) (by omega) (by omega) (by omega) (by omega) (by omega) (fun hp1 H1 F1 E1 T1 => ?_)
  have hV := V_put hP.1 (by omega) (by omega) (by omega) (by omega) (by omega) (by omega) hf E1 T1
  refine hR hp1 H1 (P0_67 F1 hP hV) F1 E1 (fun u v hu hv => ?_)
  rw [T1 u v hu hv]
  split
  · omega
  · rfl
/-- a triple is taken: the system stays one -/
theorem k_take {d : Nat} {hp : amH} {R : xQ} {a b c : Int32} (hH : bHk 84 bTT hp) (hP : P0 hp) (a1 : 0 ≤ a.toInt) (a2 : a.toInt < 15) (b1 : 0 ≤ b.toInt) (b2 : b.toInt < 15) (ht : tT hp a.toInt.toNat b.toInt.toNat = c.toInt) (hc : 0 ≤ c.toInt)
    (hR : ∀ hp1, bHk 84 bTT hp1 → P0 hp1 → bFr [(67, 999)] hp hp1 → (∀ i, i < 4 → rN hp1 67 i = rN hp 67 i) → (∀ u v, u < 15 → v < 15 → tT hp1 u v = if pr a.toInt.toNat b.toInt.toNat c.toInt.toNat u v then -1 else tT hp u v) → R (.inl none) hp1) : xK (d + 1) 207 [.ref 66, .int a, .int b, .int c] hp R := by
  have hp15 := hP.1.2.1
  obtain ⟨t1, t2, t3, t4, t5, t6, -⟩ := Vf_t hP.1 (a := a.toInt.toNat) (b := b.toInt.toNat) (c := c.toInt.toNat) (by omega) (by omega) (by omega)
  refine k_takes hH (x := a.toInt.toNat) (y := b.toInt.toNat) (z := c.toInt.toNat) (by omega) (by omega) (by omega) (by omega) (by omega) (by omega) (by omega) (by omega) (by omega) (fun hp1 H1 F1 E1 T1 => ?_)
  have hV := V_take hP.1 (by omega) (by omega) (z := c.toInt.toNat) (by omega) E1 T1
  exact hR hp1 H1 (P0_67 F1 hP hV) F1 E1 T1
end
/-! ##### 17.d.guard ##### -/
section
/-! ===== ways by hand: ranges, refusals ===== -/
theorem P0_W {W : List (Nat × Nat)} (hW : bDj W bPr = true) {hp hp1 : amH} (hF : bFr W hp hp1) (hP : P0 hp) : P0 hp1 := P0_fr hp hp1 (fun c k hc => hF c k (bDj_s hW c k hc)) hP
theorem bFr_up {W W1 : List (Nat × Nat)} {hp hp1 : amH} (h : bFr W hp hp1) (hW : ∀ c k, bIn W c k = true → bIn W1 c k = true) : bFr W1 hp hp1 := fun c k hk => h c k (by
  cases hb : bIn W c k
  · rfl
  · rw [hW c k hb] at hk; cases hk)
theorem u196 : bUp 0 am_m196.1 = true := by decide +kernel
theorem u197 : bUp 0 am_m197.1 = true := by decide +kernel
theorem u254 : bUp 0 am_m254.1 = true := by decide +kernel
theorem u255 : bUp 0 am_m255.1 = true := by decide +kernel
theorem u256 : bUp 0 am_m256.1 = true := by decide +kernel
theorem k_inr {d : Nat} {hp : amH} {R : xQ} {v a b : Int32} (hR : ∀ z : Int32, (z.toInt = 1 ∧ a.toInt ≤ v.toInt ∧ v.toInt ≤ b.toInt) ∨ (z.toInt = 0 ∧ ¬ (a.toInt ≤ v.toInt ∧ v.toInt ≤ b.toInt)) → R (.inl (some (.int z))) hp) : xK d 196 [.int v, .int a, .int b] hp R := by
  refine xin (M := am_m196) rfl rfl rfl ?_
  refine xild 1 ⟨u196, _, rfl⟩ rfl rfl ?_
  refine xild 2 ⟨u196, _, rfl⟩ rfl rfl ?_
  refine xcmp_lt 5 ⟨u196, _, rfl⟩ rfl (fun c2 => ?_) (fun c2 => ?_)
  · refine xcst 15 (0) ⟨u196, _, rfl⟩ rfl (by decide) (fun z14 h14 => ?_)
    exact xretB ⟨u196, _, rfl⟩ rfl (by omega) (hR _ (by omega))
  · refine xild 6 ⟨u196, _, rfl⟩ rfl rfl ?_
    refine xild 7 ⟨u196, _, rfl⟩ rfl rfl ?_
    refine xcmp_gt 10 ⟨u196, _, rfl⟩ rfl (fun c7 => ?_) (fun c7 => ?_)
    · refine xcst 15 (0) ⟨u196, _, rfl⟩ rfl (by decide) (fun z14 h14 => ?_)
      exact xretB ⟨u196, _, rfl⟩ rfl (by omega) (hR _ (by omega))
    · refine xcst 11 (1) ⟨u196, _, rfl⟩ rfl (by decide) (fun z10 h10 => ?_)
      refine xgoto ⟨u196, _, rfl⟩ ?_
      exact xretB ⟨u196, _, rfl⟩ rfl (by omega) (hR _ (by omega))
theorem k_fails {d : Nat} {hp : amH} {R : xQ} {v e : Int32} (hH : bHk 84 bTT hp) (hv : v.toInt = 0 ∨ v.toInt = 1) (hR : ∀ hp1, bHk 84 bTT hp1 → bFr [(66, 7)] hp hp1 → R (.inl (some (.int v))) hp1) : xK d 197 [.ref 66, .int v, .int e] hp R := by
  have b1 := aMin e
  have b2 := aMax e
  refine xin (M := am_m197) rfl rfl rfl ?_
  refine xild 1 ⟨u197, _, rfl⟩ rfl rfl ?_
  refine xif_eq 4 ⟨u197, _, rfl⟩ rfl (fun c1 => ?_) (fun c1 => ?_)
  · refine xild 10 ⟨u197, _, rfl⟩ rfl rfl ?_
    exact xretB ⟨u197, _, rfl⟩ rfl hv (hR _ hH (bFr.refl _ _))
  · refine xald 5 ⟨u197, _, rfl⟩ rfl rfl ?_
    refine xild 6 ⟨u197, _, rfl⟩ rfl rfl ?_
    refine xputI 9 hH ⟨u197, _, rfl⟩ rfl rfl ⟨rfl, rfl⟩ (by omega) (by omega) (fun hp6 hH6 U6 => ?_)
    refine xild 10 ⟨u197, _, rfl⟩ rfl rfl ?_
    exact xretB ⟨u197, _, rfl⟩ rfl hv (hR _ hH6 (rU_fr U6 rfl))
theorem k_nopt {d : Nat} {hp : amH} {R : xQ} {p : Int32} (hH : bHk 84 bTT hp) (hP : P0 hp) (hR : ∀ (z : Int32) hp1, bHk 84 bTT hp1 → P0 hp1 → bFr [(66, 7)] hp hp1 → (z.toInt = 1 ∨ (z.toInt = 0 ∧ 0 ≤ p.toInt ∧ p.toInt < rN hp 67 0)) → R (.inl (some (.int z))) hp1) : xK (d + 1) 254 [.ref 66, .int p] hp R := by
  refine xin (M := am_m254) rfl rfl rfl ?_
  refine xald 1 ⟨u254, _, rfl⟩ rfl rfl ?_
  refine xcst 2 (0) ⟨u254, _, rfl⟩ rfl (by decide) (fun z1 h1 => ?_)
  refine xputI 5 hH ⟨u254, _, rfl⟩ rfl rfl ⟨rfl, rfl⟩ (by omega) (by omega) (fun hp2 hH2 U2 => ?_)
  have hP2 := P0_W (W := [(66, 7)]) (by decide) (rU_fr U2 rfl) hP
  have e0 : rN hp2 67 0 = rN hp 67 0 := rU_ne U2 (by omega)
  have q1 := hP2.1.1
  have q2 := hP2.1.2.1
  refine xald 6 ⟨u254, _, rfl⟩ rfl rfl ?_
  refine xild 7 ⟨u254, _, rfl⟩ rfl rfl ?_
  refine xcst 8 (0) ⟨u254, _, rfl⟩ rfl (by decide) (fun z7 h7 => ?_)
  refine xald 9 ⟨u254, _, rfl⟩ rfl rfl ?_
  refine xcall 12 [.ref 66] [.int _, .int _, .ref 66] hH2 ⟨u254, _, rfl⟩ rfl rfl rfl rfl rfl (k_points hH2 (fun z9 h9 => ⟨_, rfl, ?_⟩))
  refine xcst 13 (1) ⟨u254, _, rfl⟩ rfl (by decide) (fun z12 h12 => ?_)
  refine xsub 14 _ ⟨u254, _, rfl⟩ rfl rfl (by omega) (by omega) (fun z13 h13 => ?_)
  refine xcallS 17 [.int _, .int _, .int _] [.ref 66] hH2 ⟨u254, _, rfl⟩ rfl rfl rfl rfl rfl (k_inr (fun z14 h14 => ⟨_, rfl, ?_⟩))
  refine xif_ne 20 ⟨u254, _, rfl⟩ rfl (fun c17 => ?_) (fun c17 => ?_)
  · refine xcst 25 (0) ⟨u254, _, rfl⟩ rfl (by decide) (fun z24 h24 => ?_)
    refine xcst 26 (1) ⟨u254, _, rfl⟩ rfl (by decide) (fun z25 h25 => ?_)
    refine xcall 29 [.ref 66, .int _, .int _] [] hH2 ⟨u254, _, rfl⟩ rfl rfl rfl rfl rfl (k_fails hH2 (by omega) (fun hp3 hH3 F3 => ⟨_, rfl, ?_⟩))
    exact xretB ⟨u254, _, rfl⟩ rfl (by omega) (hR _ _ hH3 (P0_W (by decide) F3 hP2) ((rU_fr U2 rfl).trans F3) (Or.inr (by omega)))
  · refine xcst 21 (1) ⟨u254, _, rfl⟩ rfl (by decide) (fun z20 h20 => ?_)
    refine xgoto ⟨u254, _, rfl⟩ ?_
    refine xcst 26 (1) ⟨u254, _, rfl⟩ rfl (by decide) (fun z25 h25 => ?_)
    refine xcall 29 [.ref 66, .int _, .int _] [] hH2 ⟨u254, _, rfl⟩ rfl rfl rfl rfl rfl (k_fails hH2 (by omega) (fun hp3 hH3 F3 => ⟨_, rfl, ?_⟩))
    exact xretB ⟨u254, _, rfl⟩ rfl (by omega) (hR _ _ hH3 (P0_W (by decide) F3 hP2) ((rU_fr U2 rfl).trans F3) (Or.inl h20))
theorem e_pt {hp hp1 : amH} (h : bFr [(66, 7)] hp hp1) (i : Nat) : rN hp1 67 i = rN hp 67 i := r_fr h rfl
theorem k_noset {d : Nat} {hp : amH} {R : xQ} {a b c : Int32} (hH : bHk 84 bTT hp) (hP : P0 hp) (hR : ∀ (z : Int32) hp1, bHk 84 bTT hp1 → P0 hp1 → bFr [(66, 7)] hp hp1 → (z.toInt = 1 ∨ (z.toInt = 0 ∧ 0 ≤ a.toInt ∧ a.toInt < rN hp 67 0 ∧ 0 ≤ b.toInt ∧ b.toInt < rN hp 67 0 ∧ 0 ≤ c.toInt ∧ c.toInt < rN hp 67 0 ∧ ¬ a.toInt = b.toInt ∧ ¬ b.toInt = c.toInt ∧ ¬ a.toInt = c.toInt)) → R (.inl (some (.int z))) hp1) : xK (d + 2) 256 [.ref 66, .int a, .int b, .int c] hp R := by
  refine xin (M := am_m256) rfl rfl rfl ?_
  have j52 : ∀ hp1, bHk 84 bTT hp1 → P0 hp1 → bFr [(66, 7)] hp hp1 → xV (d + 2) am_m256 52 [some (.ref 66), some (.int a), some (.int b), some (.int c)] [] hp1 R := by
    intro hp1 hH1 hP1 hF1
    refine xcst 53 (1) ⟨u256, _, rfl⟩ rfl (by decide) (fun z34 h34 => ?_)
    refine xgoto ⟨u256, _, rfl⟩ ?_
    exact xretB ⟨u256, _, rfl⟩ rfl (by omega) (hR _ _ hH1 hP1 hF1 (Or.inl h34))
  have j40 : ∀ hp1, bHk 84 bTT hp1 → P0 hp1 → bFr [(66, 7)] hp hp1 → xV (d + 2) am_m256 40 [some (.ref 66), some (.int a), some (.int b), some (.int c)] [.ref 66] hp1 R := by
    intro hp1 hH1 hP1 hF1
    refine xcst 41 (1) ⟨u256, _, rfl⟩ rfl (by decide) (fun z40 h40 => ?_)
    refine xgoto ⟨u256, _, rfl⟩ ?_
    refine xcst 46 (2) ⟨u256, _, rfl⟩ rfl (by decide) (fun z45 h45 => ?_)
    refine xcall 49 [.ref 66, .int _, .int _] [] hH1 ⟨u256, _, rfl⟩ rfl rfl rfl rfl rfl (k_fails hH1 (by omega) (fun hp4 hH4 F4 => ⟨_, rfl, ?_⟩))
    refine xif_eq 52 ⟨u256, _, rfl⟩ rfl (fun c31 => absurd c31 (by omega)) (fun c31 => ?_)
    exact j52 _ hH4 (P0_W (by decide) F4 hP1) (hF1.trans F4)
  refine xald 1 ⟨u256, _, rfl⟩ rfl rfl ?_
  refine xild 2 ⟨u256, _, rfl⟩ rfl rfl ?_
  refine xcall 5 [.ref 66, .int _] [] hH ⟨u256, _, rfl⟩ rfl rfl rfl rfl rfl (k_nopt hH hP (fun z2 hp2 hH2 hP2 F2 h2 => ⟨_, rfl, ?_⟩))
  refine xif_ne 8 ⟨u256, _, rfl⟩ rfl (fun c5 => j52 _ hH2 hP2 F2) (fun c5 => ?_)
  refine xald 9 ⟨u256, _, rfl⟩ rfl rfl ?_
  refine xild 10 ⟨u256, _, rfl⟩ rfl rfl ?_
  refine xcall 13 [.ref 66, .int _] [] hH2 ⟨u256, _, rfl⟩ rfl rfl rfl rfl rfl (k_nopt hH2 hP2 (fun z3 hp3 hH3 hP3 F3 h3 => ⟨_, rfl, ?_⟩))
  rw [e_pt F2] at h3
  have F3 := F2.trans F3
  refine xif_ne 16 ⟨u256, _, rfl⟩ rfl (fun c13 => j52 _ hH3 hP3 F3) (fun c13 => ?_)
  refine xald 17 ⟨u256, _, rfl⟩ rfl rfl ?_
  refine xild 18 ⟨u256, _, rfl⟩ rfl rfl ?_
  refine xcall 21 [.ref 66, .int _] [] hH3 ⟨u256, _, rfl⟩ rfl rfl rfl rfl rfl (k_nopt hH3 hP3 (fun z4 hp4 hH4 hP4 F4 h4 => ⟨_, rfl, ?_⟩))
  rw [e_pt F3] at h4
  have F4 := F3.trans F4
  refine xif_ne 24 ⟨u256, _, rfl⟩ rfl (fun c21 => j52 _ hH4 hP4 F4) (fun c21 => ?_)
  refine xald 25 ⟨u256, _, rfl⟩ rfl rfl ?_
  refine xild 26 ⟨u256, _, rfl⟩ rfl rfl ?_
  refine xild 27 ⟨u256, _, rfl⟩ rfl rfl ?_
  refine xcmp_eq 30 ⟨u256, _, rfl⟩ rfl (fun c27 => j40 _ hH4 hP4 F4) (fun c27 => ?_)
  refine xild 31 ⟨u256, _, rfl⟩ rfl rfl ?_
  refine xild 32 ⟨u256, _, rfl⟩ rfl rfl ?_
  refine xcmp_eq 35 ⟨u256, _, rfl⟩ rfl (fun c32 => j40 _ hH4 hP4 F4) (fun c32 => ?_)
  refine xild 36 ⟨u256, _, rfl⟩ rfl rfl ?_
  refine xild 37 ⟨u256, _, rfl⟩ rfl rfl ?_
  refine xcmp_ne 40 ⟨u256, _, rfl⟩ rfl (fun c37 => ?_) (fun c37 => j40 _ hH4 hP4 F4)
  refine xcst 45 (0) ⟨u256, _, rfl⟩ rfl (by decide) (fun z44 h44 => ?_)
  refine xcst 46 (2) ⟨u256, _, rfl⟩ rfl (by decide) (fun z45 h45 => ?_)
  refine xcall 49 [.ref 66, .int _, .int _] [] hH4 ⟨u256, _, rfl⟩ rfl rfl rfl rfl rfl (k_fails hH4 (by omega) (fun hp5 hH5 F5 => ⟨_, rfl, ?_⟩))
  refine xif_eq 52 ⟨u256, _, rfl⟩ rfl (fun c49 => ?_) (fun c49 => absurd h44 c49)
  refine xcst 57 (0) ⟨u256, _, rfl⟩ rfl (by decide) (fun z56 h56 => ?_)
  exact xretB ⟨u256, _, rfl⟩ rfl (by omega) (hR _ _ hH5 (P0_W (by decide) F5 hP4) (F4.trans F5) (Or.inr (by omega)))
end
/-! ##### 17.e.past ##### -/
section
/-! ===== ways by hand: rows copied, remembered, brought back ===== -/
theorem u198 : bUp 0 am_m198.1 = true := by decide +kernel
theorem u200 : bUp 0 am_m200.1 = true := by decide +kernel
theorem u201 : bUp 0 am_m201.1 = true := by decide +kernel
theorem u202 : bUp 0 am_m202.1 = true := by decide +kernel
theorem u277 : bUp 0 am_m277.1 = true := by decide +kernel
theorem u339 : bUp 0 am_m339.1 = true := by decide +kernel
theorem u340 : bUp 0 am_m340.1 = true := by decide +kernel
theorem u341 : bUp 0 am_m341.1 = true := by decide +kernel
theorem k_copy {d : Nat} {hp : amH} {R : xQ} {p q kp kq : Nat} {a b n : Int32} (s0 d0 N : Nat) (hH : bHk 84 bTT hp) (hp84 : p < 84) (hq84 : q < 84) (hpq : ¬ p = q) (hTp : bTT p = some (32, kp, [.inl (0, 4294967295)])) (hTq : bTT q = some (32, kq, [.inl (0, 4294967295)])) (ha : a.toInt = (s0 : Int)) (hb : b.toInt = (d0 : Int)) (hn : n.toInt = (N : Int)) (hs : s0 + N ≤ kp) (hd : d0 + N ≤ kq) (hk : kp ≤ 100000 ∧ kq ≤ 100000)
    (hR : ∀ hp1, bHk 84 bTT hp1 → bFr [(q, 999)] hp hp1 → (∀ i, i < kq → rN hp1 q i = if d0 ≤ i ∧ i < d0 + N then rN hp p (s0 + (i - d0)) else rN hp q i) → R (.inl none) hp1) : xK d 198 [.ref p, .int a, .ref q, .int b, .int n] hp R := by
  obtain ⟨hp1, h1, h2, h3, h4⟩ := r_copy hH hp84 hq84 hpq hTp hTq ha hb hn hs hd hk d
  exact ⟨am_m198, rfl, _, .inl none, hp1, h1, hR hp1 h2 h3 h4⟩
/-- the rows that are remembered, moved down by one -/
theorem sh_loop {d : Nat} {hp : amH} {R : xQ} {a b n : Int32} (ha : a.toInt = 229) (hb : b.toInt = 0) (hn : n.toInt = 2061) (hR : ∀ hp1, bHk 84 bTT hp1 → bFr [(71, 999)] hp hp1 → (∀ i, i < 2061 → rN hp1 71 i = rN hp 71 (229 + i)) → R (.inl none) hp1) :
    ∀ (j k : Nat) (hpk : amH) (kk : Int32), k + j = 2061 → kk.toInt = (k : Int) → bHk 84 bTT hpk → bFr [(71, 999)] hp hpk → (∀ i, i < 2290 → rN hpk 71 i = if i < k then rN hp 71 (229 + i) else rN hp 71 i) →
      xV d am_m198 3 [some (.ref 71), some (.int a), some (.ref 71), some (.int b), some (.int n), some (.int kk)] [] hpk R := by
  intro j
  induction j with
  | zero =>
    intro k hpk kk hk hkk hH hF hI
    refine xild2 5 ⟨u198, _, rfl⟩ rfl rfl ?_
    refine xild2 7 ⟨u198, _, rfl⟩ rfl rfl ?_
    refine xcmp_ge 10 ⟨u198, _, rfl⟩ rfl (fun c7 => ?_) (fun c7 => absurd c7 (by omega))
    exact xretV ⟨u198, _, rfl⟩ rfl (hR hpk hH hF (fun i hi => by rw [hI i (by omega), if_pos (by omega)]))
  | succ j ih =>
    intro k hpk kk hk hkk hH hF hI
    refine xild2 5 ⟨u198, _, rfl⟩ rfl rfl ?_
    refine xild2 7 ⟨u198, _, rfl⟩ rfl rfl ?_
    refine xcmp_ge 10 ⟨u198, _, rfl⟩ rfl (fun c7 => absurd c7 (by omega)) (fun c7 => ?_)
    refine xald 11 ⟨u198, _, rfl⟩ rfl rfl ?_
    refine xild 12 ⟨u198, _, rfl⟩ rfl rfl ?_
    refine xild2 14 ⟨u198, _, rfl⟩ rfl rfl ?_
    refine xadd 15 k ⟨u198, _, rfl⟩ rfl (by omega) (by omega) (by omega) (fun z14 h14 => ?_)
    refine xald 16 ⟨u198, _, rfl⟩ rfl rfl ?_
    refine xild 17 ⟨u198, _, rfl⟩ rfl rfl ?_
    refine xild2 19 ⟨u198, _, rfl⟩ rfl rfl ?_
    refine xadd 20 (229 + k) ⟨u198, _, rfl⟩ rfl (by omega) (by omega) (by omega) (fun z19 h19 => ?_)
    refine xiald 21 (229 + k) hH ⟨u198, _, rfl⟩ rfl (by decide) rfl (by omega) (by omega) (fun z20 h20 => ?_)
    have b1 := aMin z20
    have b2 := aMax z20
    refine xiast 22 k hH ⟨u198, _, rfl⟩ rfl (by decide) rfl (by omega) (by omega) (by omega) (by omega) (fun hp21 hH21 U21 => ?_)
    refine xinc 25 (1) ⟨u198, _, rfl⟩ rfl rfl rfl (by decide) (by omega) (by omega) (fun z22 h22 => ?_)
    refine xgoto ⟨u198, _, rfl⟩ ?_
    refine ih (k + 1) hp21 z22 (by omega) (by omega) hH21 (hF.trans (rU_fr U21 (bIn_all (by decide) k))) (fun i hi => ?_)
    by_cases hik : i = k
    · subst hik
      rw [U21.1, h20, hI _ (by omega), if_neg (by omega), if_pos (by omega)]
    · rw [rU_ne U21 (by omega), hI i hi]
      by_cases h : i < k
      · rw [if_pos h, if_pos (by omega)]
      · rw [if_neg h, if_neg (by omega)]
theorem k_shift {d : Nat} {hp : amH} {R : xQ} {a b n : Int32} (hH : bHk 84 bTT hp) (ha : a.toInt = 229) (hb : b.toInt = 0) (hn : n.toInt = 2061) (hR : ∀ hp1, bHk 84 bTT hp1 → bFr [(71, 999)] hp hp1 → (∀ i, i < 2061 → rN hp1 71 i = rN hp 71 (229 + i)) → R (.inl none) hp1) : xK d 198 [.ref 71, .int a, .ref 71, .int b, .int n] hp R := by
  refine xin (M := am_m198) rfl rfl rfl ?_
  refine xcst 1 (0) ⟨u198, _, rfl⟩ rfl (by decide) (fun z0 h0 => ?_)
  refine xist2 3 ⟨u198, _, rfl⟩ rfl rfl ?_
  exact sh_loop ha hb hn hR 2061 0 hp z0 rfl (by omega) hH (bFr.refl _ _) (fun i hi => by rw [if_neg (by omega)])
def wRem : List (Nat × Nat) := [(71, 999), (66, 5)]
theorem bIn_ne {c c1 k i : Nat} (h : ¬ c1 = c) : bIn [(c, k)] c1 i = false := by
  simp only [bIn]
  cases hb : Nat.beq c c1
  · rfl
  · exact absurd (Nat.eq_of_beq_eq_true hb).symm h
theorem bIn_h {c k : Nat} : ∀ {W : List (Nat × Nat)} {i : Nat}, (c, k) ∈ W → (k = i ∨ k = 999) → bIn W c i = true
  | p :: r, i, h, hk => by
    unfold bIn
    cases hb : Nat.beq p.1 c
    · dsimp only
      rcases List.mem_cons.mp h with z | z
      · rw [← z] at hb
        rw [Nat.beq_refl] at hb
        cases hb
      · exact bIn_h z hk
    · dsimp only
      cases hb2 : Nat.beq p.2 i
      · dsimp only
        cases hb3 : Nat.beq p.2 999
        · dsimp only
          rcases List.mem_cons.mp h with z | z
          · rw [← z] at hb2 hb3
            rcases hk with u | u
            · subst u; rw [Nat.beq_refl] at hb2; cases hb2
            · subst u; rw [Nat.beq_refl] at hb3; cases hb3
          · exact bIn_h z hk
        · rfl
      · rfl
/-- what is written in one place, is written among many -/
theorem bFr_in {c k : Nat} {W : List (Nat × Nat)} {hp hp1 : amH} (h : bFr [(c, k)] hp hp1) (hW : (c, k) ∈ W) : bFr W hp hp1 := bFr_up h (fun c1 i hi => by
  obtain ⟨p, g1, g2, g3⟩ := bIn_mem hi
  have : p = (c, k) := by simpa using g1
  subst this
  dsimp only at g2 g3
  subst g2
  exact bIn_h hW g3)
theorem bFr_sub {W W1 : List (Nat × Nat)} {hp hp1 : amH} (h : bFr W hp hp1) (hW : ∀ p ∈ W, p ∈ W1) : bFr W1 hp hp1 := bFr_up h (fun c1 i hi => by
  obtain ⟨p, g1, g2, g3⟩ := bIn_mem hi
  subst g2
  exact bIn_h (hW p g1) g3)
end
/-! ##### 17.f.pub ##### -/
section
/-! ===== ways by hand: what is said of a call from outside ===== -/
def wM : List (Nat × Nat) := [(66, 5), (66, 6), (66, 7), (66, 12), (66, 14), (66, 17), (66, 19), (66, 32), (67, 999), (68, 999), (69, 999), (70, 999), (71, 999), (72, 999), (73, 999), (74, 999), (75, 999), (76, 999), (77, 999), (78, 999), (79, 999), (82, 999)]
theorem ref66 {v : Value} (h : bYr 84 (.inr (.inr [66])) v) : v = .ref 66 := by
  obtain ⟨i, e, -, hi⟩ := h
  have hi : i = 66 := by simpa using hi
  rw [e, hi]
/-- a checked method of one case, an int, called -/
theorem xsem1 {P : amH → Prop} {d k lo hi : Nat} {s : bSp} {fs : List bFa} {av : List Value} {hp : amH} {R : xQ} (hs : bSem amGG P 84 bTT k s) (hd : s.2.2.1 ≤ d) (hH : bHk 84 bTT hp) (hP : P hp) (ha : bArgs 84 s.1 av) (hf : bFacts hp s.2.1) (hc : s.2.2.2.2.2 = [(some (.inl (lo, hi)), fs)]) (ht : s.2.2.2.2.1 = [])
    (hR : ∀ (z : Int32) hp1, bHk 84 bTT hp1 → P hp1 → bFr s.2.2.2.1 hp hp1 → (lo : Int) - 2147483648 ≤ z.toInt → z.toInt ≤ (hi : Int) - 2147483648 → R (.inl (some (.int z))) hp1) : xK d k av hp R := by
  refine xsem hs hd hH hP ha hf (fun y hp1 g1 g2 g3 g4 => ?_)
  match y with
  | .inl v =>
    obtain ⟨c, h1, h2, h3⟩ := g4
    rw [hc] at h1
    have h1 : c = (some (.inl (lo, hi)), fs) := by simpa using h1
    subst h1
    match v, h2 with
    | some v, ⟨z, e, z1, z2⟩ =>
      subst e
      have := aOff_eq z
      exact hR z hp1 g1 g2 g3 (by omega) (by omega)
  | .inr E =>
    have g4 : E ∈ s.2.2.2.2.1 := g4
    rw [ht] at g4
    cases g4
theorem xsemV {P : amH → Prop} {d k : Nat} {s : bSp} {fs : List bFa} {av : List Value} {hp : amH} {R : xQ} (hs : bSem amGG P 84 bTT k s) (hd : s.2.2.1 ≤ d) (hH : bHk 84 bTT hp) (hP : P hp) (ha : bArgs 84 s.1 av) (hf : bFacts hp s.2.1) (hc : s.2.2.2.2.2 = [(none, fs)]) (ht : s.2.2.2.2.1 = [])
    (hR : ∀ hp1, bHk 84 bTT hp1 → P hp1 → bFr s.2.2.2.1 hp hp1 → R (.inl none) hp1) : xK d k av hp R := by
  refine xsem hs hd hH hP ha hf (fun y hp1 g1 g2 g3 g4 => ?_)
  match y with
  | .inl v =>
    obtain ⟨c, h1, h2, h3⟩ := g4
    rw [hc] at h1
    have h1 : c = (none, fs) := by simpa using h1
    subst h1
    match v, h2 with
    | none, _ => exact hR hp1 g1 g2 g3
  | .inr E =>
    have g4 : E ∈ s.2.2.2.2.1 := g4
    rw [ht] at g4
    cases g4
theorem a66 : bYr 84 (.inr (.inr [66])) (.ref 66) := ⟨66, rfl, by decide, by simp⟩
theorem aFI (x : Int32) : bYr 84 (.inl (0, 4294967295)) (.int x) := ⟨x, rfl, Nat.zero_le _, bOff_le x⟩
theorem noF (hp : amH) : bFacts hp [] := fun f hf => by cases hf
theorem k_fails2 {d : Nat} {hp : amH} {R : xQ} {v e : Int32} (hH : bHk 84 bTT hp) (hP : P0 hp) (hv : v.toInt = 0 ∨ v.toInt = 1) (hR : ∀ hp1, bHk 84 bTT hp1 → P0 hp1 → bFr [(66, 7)] hp hp1 → R (.inl (some (.int v))) hp1) : xK d 197 [.ref 66, .int v, .int e] hp R :=
  k_fails hH hv (fun hp1 h1 h2 => hR hp1 h1 (P0_W (by decide) h2 hP) h2)
theorem k_lt {d : Nat} {hp : amH} {R : xQ} (hH : bHk 84 bTT hp) (hP : P0 hp) (hR : ∀ hp1, bHk 84 bTT hp1 → P0 hp1 → bFr bLT hp hp1 → R (.inl none) hp1) : xK (d + 1) 211 [.ref 66] hp R :=
  xsemV h211_s (Nat.le_add_left 1 d) hH hP ⟨a66, trivial⟩ (noF hp) rfl rfl hR
theorem k_num {d : Nat} {hp : amH} {R : xQ} {m : Int32} (hH : bHk 84 bTT hp) (hP : P0 hp) (hR : ∀ z : Int32, -1 ≤ z.toInt ∧ z.toInt ≤ 34 → ∀ hp1, bHk 84 bTT hp1 → P0 hp1 → bFr [] hp hp1 → R (.inl (some (.int z))) hp1) : xK d 212 [.ref 66, .int m] hp R :=
  xsem1 (bQ6_s bf_4 (List.mem_of_getElem? (i := 129) rfl)) (Nat.zero_le d) hH hP ⟨a66, aFI m, trivial⟩ (noF hp) rfl rfl (fun z hp1 h1 h2 h3 h4 h5 => hR z (by omega) hp1 h1 h2 h3)
theorem u233 : bUp 0 am_m233.1 = true := by decide +kernel
theorem k_turned {d : Nat} {hp : amH} {R : xQ} {a b : Int32} (hH : bHk 84 bTT hp) (hP : P0 hp) (a1 : 0 ≤ a.toInt) (a2 : a.toInt ≤ 100) (b1 : 0 ≤ b.toInt) (b2 : b.toInt ≤ 100) (hR : ∀ z : Int32, z.toInt = (a.toInt + b.toInt) % rN hp 67 0 ∧ 0 ≤ z.toInt ∧ z.toInt < rN hp 67 0 → R (.inl (some (.int z))) hp) : xK (d + 1) 233 [.ref 66, .int a, .int b] hp R := by
  have q1 := hP.1.1
  have q2 := hP.1.2.1
  refine xin (M := am_m233) rfl rfl rfl ?_
  refine xild 1 ⟨u233, _, rfl⟩ rfl rfl ?_
  refine xild 2 ⟨u233, _, rfl⟩ rfl rfl ?_
  refine xadd 3 _ ⟨u233, _, rfl⟩ rfl rfl (by omega) (by omega) (fun z2 h2 => ?_)
  refine xald 4 ⟨u233, _, rfl⟩ rfl rfl ?_
  refine xcall 7 [.ref 66] [.int _] hH ⟨u233, _, rfl⟩ rfl rfl rfl rfl rfl (k_points hH (fun z4 h4 => ⟨_, rfl, ?_⟩))
  refine xrem 8 _ ⟨u233, _, rfl⟩ rfl (by omega) (by omega) rfl (fun z7 h7 => ?_)
  have g1 := Int.emod_nonneg z2.toInt (b := z4.toInt) (by omega)
  have g2 := Int.emod_lt_of_pos z2.toInt (b := z4.toInt) (by omega)
  refine xret ⟨u233, _, rfl⟩ rfl (hR _ ⟨by rw [h7, h2, h4], by omega, by omega⟩)
end
/-! ##### 17.g.mut ##### -/
section
/-! ===== ways by hand: calls that change the system (1) ===== -/
theorem lAt_pad : ∀ (L : List (Option Value)) (m k : Nat) (v : Value), lAt (L ++ List.replicate m none) k = some (some v) → lAt L k = some (some v)
  | [], m, k, v, e => by
    rcases lAt_rep m k (none : Option Value) with h | h <;> rw [List.nil_append, h] at e <;> cases e
  | c :: r, m, 0, v, e => e
  | c :: r, m, k + 1, v, e => lAt_pad r m k v e
theorem xpad (m : Nat) {M : amM} {pc d : Nat} {L : List (Option Value)} {st : List Value} {hp : amH} {Q : xQ} (hw : xV d M pc (L ++ List.replicate m none) st hp Q) : xV d M pc L st hp Q := xdrop (lAt_pad L m) hw
theorem u276 : bUp 0 am_m276.1 = true := by decide +kernel
theorem u269 : bUp 0 am_m269.1 = true := by decide +kernel
theorem u272 : bUp 0 am_m272.1 = true := by decide +kernel
theorem u278 : bUp 0 am_m278.1 = true := by decide +kernel
theorem u275 : bUp 0 am_m275.1 = true := by decide +kernel
end
/-! ##### 17.h.lst ##### -/
section
/-! ===== ways by hand: laysTriples once more: all triples, in order ===== -/
def b3 (x y z : Nat) : Int := ((2 ^ x + 2 ^ y + 2 ^ z : Nat) : Int)
theorem msk_b3 : ∀ x y z : Fin 15, x < y → y < z → (msk (Int32.ofNat x) (Int32.ofNat y) (Int32.ofNat z)).toInt = b3 x y z ∧ 0 ≤ b3 x y z ∧ b3 x y z ≤ 32767 := by decide +kernel
def LJ (r : Nat → Int) (hp : amH) (N m : Nat) : Prop := rN hp 66 12 = (m : Int) ∧ (∃ L, gL r N L ∧ L.length = 3 * m) ∧
  (∀ k, k < m → ∃ x y z : Nat, x < y ∧ y < z ∧ z < 15 ∧ r (4 + 15 * x + y) = (z : Int) ∧ rN hp 72 k = (x : Int) ∧ rN hp 73 k = (y : Int) ∧ rN hp 74 k = (z : Int) ∧ rN hp 75 k = b3 x y z ∧ 15 * x + y < N) ∧
  (∀ k l, k < l → l < m → 15 * rN hp 72 k + rN hp 73 k < 15 * rN hp 72 l + rN hp 73 l) ∧
  (∀ x y z : Nat, x < y → y < z → z < 15 → r (4 + 15 * x + y) = (z : Int) → 15 * x + y < N → ∃ k, k < m ∧ rN hp 72 k = (x : Int) ∧ rN hp 73 k = (y : Int) ∧ rN hp 74 k = (z : Int))
theorem LJ_up {r : Nat → Int} {hp : amH} {N N1 m : Nat} (h : LJ r hp N m) (hN : N ≤ N1) (hn : ∀ x y z : Nat, x < y → y < z → z < 15 → r (4 + 15 * x + y) = (z : Int) → 15 * x + y < N1 → 15 * x + y < N) : LJ r hp N1 m := by
  obtain ⟨h1, ⟨L, h2, h3⟩, h4, h5, h6⟩ := h
  refine ⟨h1, ⟨L, gL_mono h2 hN, h3⟩, fun k hk => ?_, h5, fun x y z a b c d e => h6 x y z a b c d (hn x y z a b c d e)⟩
  obtain ⟨x, y, z, g1, g2, g3, g4, g5, g6, g7, g8, g9⟩ := h4 k hk
  exact ⟨x, y, z, g1, g2, g3, g4, g5, g6, g7, g8, by omega⟩
theorem LJ_35 {r : Nat → Int} {hp : amH} {N m : Nat} (h : LJ r hp N m) : m ≤ 35 := by
  obtain ⟨-, ⟨L, h2, h3⟩, -⟩ := h
  have := gL_len h2
  omega
theorem LJ_add {r : Nat → Int} (hV : Vf r) {hp hp1 : amH} {x y z m : Nat} (h : LJ r hp (15 * x + y) m) (hxy : x < y) (hyz : y < z) (hz : z < 15) (e : r (4 + 15 * x + y) = (z : Int)) (k12 : rN hp1 66 12 = ((m + 1 : Nat) : Int)) (k72 : rN hp1 72 m = (x : Int)) (k73 : rN hp1 73 m = (y : Int)) (k74 : rN hp1 74 m = (z : Int)) (k75 : rN hp1 75 m = b3 x y z)
    (hk : ∀ c k, 72 ≤ c → c ≤ 75 → ¬ k = m → rN hp1 c k = rN hp c k) : LJ r hp1 (15 * x + y + 1) (m + 1) := by
  obtain ⟨h1, ⟨L, h2, h3⟩, h4, h5, h6⟩ := h
  have hL2 := gL_add hV h2 hxy hyz hz e (Nat.le_refl _)
  refine ⟨k12, ⟨_, hL2, by simp only [List.length_cons]; omega⟩, fun k hkm => ?_, fun k l hkl hl => ?_, fun a b c g1 g2 g3 g4 g5 => ?_⟩
  · by_cases ek : k = m
    · subst ek
      exact ⟨x, y, z, hxy, hyz, hz, e, k72, k73, k74, k75, by omega⟩
    · obtain ⟨a, b, c, g1, g2, g3, g4, g5, g6, g7, g8, g9⟩ := h4 k (by omega)
      exact ⟨a, b, c, g1, g2, g3, g4, by rw [hk 72 k (by omega) (by omega) ek, g5], by rw [hk 73 k (by omega) (by omega) ek, g6], by rw [hk 74 k (by omega) (by omega) ek, g7], by rw [hk 75 k (by omega) (by omega) ek, g8], by omega⟩
  · rw [hk 72 k (by omega) (by omega) (by omega), hk 73 k (by omega) (by omega) (by omega)]
    by_cases el : l = m
    · subst el
      obtain ⟨a, b, c, g1, g2, g3, g4, g5, g6, g7, g8, g9⟩ := h4 k (by omega)
      omega
    · rw [hk 72 l (by omega) (by omega) el, hk 73 l (by omega) (by omega) el]
      exact h5 k l hkl (by omega)
  · by_cases es : 15 * a + b < 15 * x + y
    · obtain ⟨k, q1, q2, q3, q4⟩ := h6 a b c g1 g2 g3 g4 es
      exact ⟨k, by omega, by rw [hk 72 k (by omega) (by omega) (by omega), q2], by rw [hk 73 k (by omega) (by omega) (by omega), q3], by rw [hk 74 k (by omega) (by omega) (by omega), q4]⟩
    · have ea : a = x := by omega
      have eb : b = y := by omega
      subst ea
      subst eb
      have ec : c = z := by omega
      subst ec
      exact ⟨m, by omega, k72, k73, k74⟩
theorem u211 : bUp 0 am_m211.1 = true := by decide +kernel
theorem lj_42 {d : Nat} {r : Nat → Int} (hV : Vf r) {hp0 hp : amH} {R : xQ} {a b c : Int32} {x y z m : Nat} (hH : bHk 84 bTT hp) (hF : bFr bLT hp0 hp) (hI : LJ r hp (15 * x + y) m) (hxy : x < y) (hyz : y < z) (hz : z < 15) (e : r (4 + 15 * x + y) = (z : Int)) (ha : a.toInt = (x : Int)) (hb : b.toInt = (y : Int)) (hc : c.toInt = (z : Int))
    (hw : ∀ (hp1 : amH) (b1 : Int32), bHk 84 bTT hp1 → bFr bLT hp0 hp1 → LJ r hp1 (15 * x + y + 1) (m + 1) → b1.toInt = ((y + 1 : Nat) : Int) → xV (d + 1) am_m211 19 [some (.ref 66), some (.int a), some (.int b1), some (.int c)] [] hp1 R) :
    xV (d + 1) am_m211 42 [some (.ref 66), some (.int a), some (.int b), some (.int c)] [] hp R := by
  have hm : m ≤ 34 := by
    obtain ⟨-, ⟨L, h2, h3⟩, -⟩ := hI
    have := gL_len (gL_add hV h2 hxy hyz hz e (Nat.le_refl _))
    simp only [List.length_cons] at this
    omega
  have hM := hI.1
  refine xald 43 ⟨u211, _, rfl⟩ rfl rfl ?_
  refine xgetR 46 72 hH ⟨u211, _, rfl⟩ rfl rfl ?_
  refine xald 47 ⟨u211, _, rfl⟩ rfl rfl ?_
  refine xgetI 50 hH ⟨u211, _, rfl⟩ rfl rfl (fun z47 h47 => ?_)
  have o47 : z47.toInt = (m : Int) := by rw [h47, hM]
  refine xild 51 ⟨u211, _, rfl⟩ rfl rfl ?_
  refine xiast 52 m hH ⟨u211, _, rfl⟩ rfl (by decide) rfl (by omega) (by omega) (by omega) (by omega) (fun hp51 hH51 U51 => ?_)
  refine xald 53 ⟨u211, _, rfl⟩ rfl rfl ?_
  refine xgetR 56 73 hH51 ⟨u211, _, rfl⟩ rfl rfl ?_
  refine xald 57 ⟨u211, _, rfl⟩ rfl rfl ?_
  refine xgetI 60 hH51 ⟨u211, _, rfl⟩ rfl rfl (fun z57 h57 => ?_)
  have o57 : z57.toInt = (m : Int) := by rw [h57, rU_ne U51 (by omega), hM]
  refine xild 61 ⟨u211, _, rfl⟩ rfl rfl ?_
  refine xiast 62 m hH51 ⟨u211, _, rfl⟩ rfl (by decide) rfl (by omega) (by omega) (by omega) (by omega) (fun hp61 hH61 U61 => ?_)
  refine xald 63 ⟨u211, _, rfl⟩ rfl rfl ?_
  refine xgetR 66 74 hH61 ⟨u211, _, rfl⟩ rfl rfl ?_
  refine xald 67 ⟨u211, _, rfl⟩ rfl rfl ?_
  refine xgetI 70 hH61 ⟨u211, _, rfl⟩ rfl rfl (fun z67 h67 => ?_)
  have o67 : z67.toInt = (m : Int) := by rw [h67, rU_ne U61 (by omega), rU_ne U51 (by omega), hM]
  refine xild 71 ⟨u211, _, rfl⟩ rfl rfl ?_
  refine xiast 72 m hH61 ⟨u211, _, rfl⟩ rfl (by decide) rfl (by omega) (by omega) (by omega) (by omega) (fun hp71 hH71 U71 => ?_)
  refine xald 73 ⟨u211, _, rfl⟩ rfl rfl ?_
  refine xgetR 76 75 hH71 ⟨u211, _, rfl⟩ rfl rfl ?_
  refine xald 77 ⟨u211, _, rfl⟩ rfl rfl ?_
  refine xgetI 80 hH71 ⟨u211, _, rfl⟩ rfl rfl (fun z77 h77 => ?_)
  have o77 : z77.toInt = (m : Int) := by rw [h77, rU_ne U71 (by omega), rU_ne U61 (by omega), rU_ne U51 (by omega), hM]
  refine xcst 81 (1) ⟨u211, _, rfl⟩ rfl (by decide) (fun z80 h80 => ?_)
  refine xild 82 ⟨u211, _, rfl⟩ rfl rfl ?_
  refine xshl 83 ⟨u211, _, rfl⟩ rfl ?_
  refine xcst 84 (1) ⟨u211, _, rfl⟩ rfl (by decide) (fun z83 h83 => ?_)
  refine xild 85 ⟨u211, _, rfl⟩ rfl rfl ?_
  refine xshl 86 ⟨u211, _, rfl⟩ rfl ?_
  refine xor_ 87 ⟨u211, _, rfl⟩ rfl ?_
  refine xcst 88 (1) ⟨u211, _, rfl⟩ rfl (by decide) (fun z87 h87 => ?_)
  refine xild 89 ⟨u211, _, rfl⟩ rfl rfl ?_
  refine xshl 90 ⟨u211, _, rfl⟩ rfl ?_
  refine xor_ 91 ⟨u211, _, rfl⟩ rfl ?_
  have m1 : z80 = 1 := x_eq.mpr h80
  have m2 : z83 = 1 := x_eq.mpr h83
  have m3 : z87 = 1 := x_eq.mpr h87
  subst m1
  subst m2
  subst m3
  have hmk := msk_b3 ⟨x, by omega⟩ ⟨y, by omega⟩ ⟨z, by omega⟩ hxy hyz
  dsimp only at hmk
  rw [← i_of ha (by omega), ← i_of hb (by omega), ← i_of hc hz] at hmk
  unfold msk at hmk
  refine xiast 92 m hH71 ⟨u211, _, rfl⟩ rfl (by decide) rfl (by omega) (by omega) (by omega) (by omega) (fun hp91 hH91 U91 => ?_)
  refine xald 93 ⟨u211, _, rfl⟩ rfl rfl ?_
  refine xdup 94 ⟨u211, _, rfl⟩ rfl rfl ?_
  refine xgetI 97 hH91 ⟨u211, _, rfl⟩ rfl rfl (fun z94 h94 => ?_)
  have o94 : z94.toInt = (m : Int) := by rw [h94, rU_ne U91 (by omega), rU_ne U71 (by omega), rU_ne U61 (by omega), rU_ne U51 (by omega), hM]
  refine xcst 98 (1) ⟨u211, _, rfl⟩ rfl (by decide) (fun z97 h97 => ?_)
  refine xadd 99 _ ⟨u211, _, rfl⟩ rfl rfl (by omega) (by omega) (fun z98 h98 => ?_)
  refine xputI 102 hH91 ⟨u211, _, rfl⟩ rfl rfl ⟨rfl, rfl⟩ (by omega) (by omega) (fun hp99 hH99 U99 => ?_)
  refine xinc 105 (1) ⟨u211, _, rfl⟩ rfl rfl rfl (by decide) (by omega) (by omega) (fun z102 h102 => ?_)
  refine xgoto ⟨u211, _, rfl⟩ ?_
  have F99 : bFr bLT hp0 hp99 := hF.trans ((rU_fr U51 (bIn_all (by decide) m)).trans ((rU_fr U61 (bIn_all (by decide) m)).trans ((rU_fr U71 (bIn_all (by decide) m)).trans ((rU_fr U91 (bIn_all (by decide) m)).trans (rU_fr U99 (by decide))))))
  refine hw hp99 z102 hH99 F99 (LJ_add hV hI hxy hyz hz e (by rw [U99.1]; omega) ?_ ?_ ?_ ?_ (fun c k hc1 hc2 hk => ?_)) (by omega)
  · rw [rU_ne U99 (by omega), rU_ne U91 (by omega), rU_ne U71 (by omega), rU_ne U61 (by omega), U51.1, ha]
  · rw [rU_ne U99 (by omega), rU_ne U91 (by omega), rU_ne U71 (by omega), U61.1, hb]
  · rw [rU_ne U99 (by omega), rU_ne U91 (by omega), U71.1, hc]
  · rw [rU_ne U99 (by omega), U91.1, hmk.1]
  · rw [rU_ne U99 (by omega), rU_ne U91 (by omega), rU_ne U71 (by omega), rU_ne U61 (by omega), rU_ne U51 (by omega)]
theorem lj_in {d : Nat} {hp0 : amH} (hV : Vf (rN hp0 67)) {R : xQ} {x : Nat} {a : Int32} (ha : a.toInt = (x : Int))
    (hQ : ∀ (hp : amH) (a1 : Int32) (m : Nat) (v w : Option Value), bHk 84 bTT hp → bFr bLT hp0 hp → LJ (rN hp0 67) hp (15 * x + 15) m → a1.toInt = ((x + 1 : Nat) : Int) → xV (d + 1) am_m211 7 [some (.ref 66), some (.int a1), v, w] [] hp R) :
    ∀ (j : Nat) (y m : Nat) (b : Int32) (v : Option Value) (hp : amH), bHk 84 bTT hp → bFr bLT hp0 hp → LJ (rN hp0 67) hp (15 * x + y) m → y + j = 15 → x < y → b.toInt = (y : Int) → xV (d + 1) am_m211 19 [some (.ref 66), some (.int a), some (.int b), v] [] hp R := by
  intro j
  induction j using Nat.strongRecOn with
  | ind j ih =>
    intro y m b v hp hH hF hI hj hxy hb
    have q1 := hV.1
    have q2 := hV.2.1
    have e0 : rN hp 67 0 = rN hp0 67 0 := r_fr hF rfl
    refine xild 20 ⟨u211, _, rfl⟩ rfl rfl ?_
    refine xald 21 ⟨u211, _, rfl⟩ rfl rfl ?_
    refine xcall 24 [.ref 66] [.int _] hH ⟨u211, _, rfl⟩ rfl rfl rfl rfl rfl (k_points hH (fun z21 h21 => ⟨_, rfl, ?_⟩))
    refine xcmp_ge 27 ⟨u211, _, rfl⟩ rfl (fun c24 => ?_) (fun c24 => ?_)
    · refine xinc 111 (1) ⟨u211, _, rfl⟩ rfl rfl rfl (by decide) (by omega) (by omega) (fun z108 h108 => ?_)
      refine xgoto ⟨u211, _, rfl⟩ ?_
      exact hQ hp z108 m _ _ hH hF (LJ_up hI (by omega) (fun x1 y1 z1 g1 g2 g3 g4 g5 => by
          obtain ⟨k1, k2, -⟩ := Vf_at hV (a := x1) (b := y1) (by omega) (by omega) g4
          omega)) (by omega)
    · refine xald 28 ⟨u211, _, rfl⟩ rfl rfl ?_
      refine xild 29 ⟨u211, _, rfl⟩ rfl rfl ?_
      refine xild 30 ⟨u211, _, rfl⟩ rfl rfl ?_
      refine xcall 33 [.ref 66, .int _, .int _] [] hH ⟨u211, _, rfl⟩ rfl rfl rfl rfl rfl (k_third hH (by omega) (by omega) (by omega) (by omega) (fun z30 h30 => ⟨_, rfl, ?_⟩))
      have eT : tT hp a.toInt.toNat b.toInt.toNat = rN hp0 67 (4 + 15 * x + y) := by
        rw [show a.toInt.toNat = x by omega, show b.toInt.toNat = y by omega]
        exact r_fr hF rfl
      refine xist 34 ⟨u211, _, rfl⟩ rfl rfl ?_
      refine xild 35 ⟨u211, _, rfl⟩ rfl rfl ?_
      refine xild 36 ⟨u211, _, rfl⟩ rfl rfl ?_
      refine xcmp_ge 39 ⟨u211, _, rfl⟩ rfl (fun c36 => ?_) (fun c36 => ?_)
      · rcases hV.2.2 x y (by omega) (by omega) with g | ⟨c, g1, g2, g3, g4, g5, g6, g7, -⟩
        · rw [eT, g] at h30
          omega
        · have hp15 := hV.2.1
          refine lj_42 hV hH hF hI (z := c) hxy (by omega) (by omega) g1 ha hb (by omega) (fun hp1 b1 k1 k2 k3 k4 => ?_)
          exact ih (j - 1) (by omega) (y + 1) (m + 1) _ _ _ k1 k2 k3 (by omega) (by omega) k4
      · refine xgoto ⟨u211, _, rfl⟩ ?_
        refine xinc 105 (1) ⟨u211, _, rfl⟩ rfl rfl rfl (by decide) (by omega) (by omega) (fun z102 h102 => ?_)
        refine xgoto ⟨u211, _, rfl⟩ ?_
        exact ih (j - 1) (by omega) (y + 1) m _ _ _ hH hF (LJ_up hI (by omega) (fun x1 y1 z1 g1 g2 g3 g4 g5 => by
          rcases Nat.lt_or_ge (15 * x1 + y1) (15 * x + y) with q | q
          · exact q
          · have e1 : x1 = x := by omega
            have e2 : y1 = y := by omega
            subst e1
            subst e2
            rw [eT, g4] at h30
            omega)) (by omega) (by omega) (by omega)
theorem lj_out {d : Nat} {hp0 : amH} (hV : Vf (rN hp0 67)) {R : xQ} (hQ : ∀ (hp : amH) (m : Nat), bHk 84 bTT hp → bFr bLT hp0 hp → LJ (rN hp0 67) hp 225 m → R (.inl none) hp) :
    ∀ (j : Nat) (x m : Nat) (a : Int32) (v w : Option Value) (hp : amH), bHk 84 bTT hp → bFr bLT hp0 hp → LJ (rN hp0 67) hp (15 * x) m → x + j = 15 → a.toInt = (x : Int) → xV (d + 1) am_m211 7 [some (.ref 66), some (.int a), v, w] [] hp R := by
  intro j
  induction j using Nat.strongRecOn with
  | ind j ih =>
    intro x m a v w hp hH hF hI hj ha
    have q1 := hV.1
    have q2 := hV.2.1
    have e0 : rN hp 67 0 = rN hp0 67 0 := r_fr hF rfl
    refine xild 8 ⟨u211, _, rfl⟩ rfl rfl ?_
    refine xald 9 ⟨u211, _, rfl⟩ rfl rfl ?_
    refine xcall 12 [.ref 66] [.int _] hH ⟨u211, _, rfl⟩ rfl rfl rfl rfl rfl (k_points hH (fun z9 h9 => ⟨_, rfl, ?_⟩))
    refine xcmp_ge 15 ⟨u211, _, rfl⟩ rfl (fun c12 => ?_) (fun c12 => ?_)
    · refine xretV ⟨u211, _, rfl⟩ rfl (hQ hp m hH hF (LJ_up hI (by omega) (fun x1 y1 z1 g1 g2 g3 g4 g5 => by
        obtain ⟨k1, k2, -⟩ := Vf_at hV (a := x1) (b := y1) (by omega) (by omega) g4
        omega)))
    · refine xild 16 ⟨u211, _, rfl⟩ rfl rfl ?_
      refine xcst 17 (1) ⟨u211, _, rfl⟩ rfl (by decide) (fun z16 h16 => ?_)
      refine xadd 18 _ ⟨u211, _, rfl⟩ rfl rfl (by omega) (by omega) (fun z17 h17 => ?_)
      refine xist 19 ⟨u211, _, rfl⟩ rfl rfl ?_
      refine lj_in hV ha (fun hp1 a1 m1 v1 w1 k1 k2 k3 k4 => ?_) (14 - x) (x + 1) m _ _ _ hH hF (LJ_up hI (by omega) (fun x1 y1 z1 g1 g2 g3 g4 g5 => by omega)) (by omega) (by omega) (by omega)
      exact ih (j - 1) (by omega) (x + 1) m1 _ _ _ _ k1 k2 k3 (by omega) k4
/-- the list of triples is the system's -/
def Lst (hp : amH) (m : Nat) : Prop := rN hp 66 12 = (m : Int) ∧ m ≤ 35 ∧
  (∀ k, k < m → ∃ x y z : Nat, x < y ∧ y < z ∧ z < 15 ∧ tT hp x y = (z : Int) ∧ rN hp 72 k = (x : Int) ∧ rN hp 73 k = (y : Int) ∧ rN hp 74 k = (z : Int) ∧ rN hp 75 k = b3 x y z) ∧
  (∀ k l, k < l → l < m → 15 * rN hp 72 k + rN hp 73 k < 15 * rN hp 72 l + rN hp 73 l) ∧
  (∀ x y z : Nat, x < y → y < z → z < 15 → tT hp x y = (z : Int) → ∃ k, k < m ∧ rN hp 72 k = (x : Int) ∧ rN hp 73 k = (y : Int) ∧ rN hp 74 k = (z : Int))
theorem LJ_Lst {hp0 hp : amH} {m : Nat} (hF : bFr bLT hp0 hp) (h : LJ (rN hp0 67) hp 225 m) : Lst hp m := by
  have h35 := LJ_35 h
  obtain ⟨h1, -, h4, h5, h6⟩ := h
  have e : ∀ i, rN hp 67 i = rN hp0 67 i := fun i => r_fr hF rfl
  refine ⟨h1, h35, fun k hk => ?_, h5, fun x y z g1 g2 g3 g4 => h6 x y z g1 g2 g3 (by rw [← e]; exact g4) (by omega)⟩
  obtain ⟨x, y, z, g1, g2, g3, g4, g5, g6, g7, g8, -⟩ := h4 k hk
  exact ⟨x, y, z, g1, g2, g3, (e _).trans g4, g5, g6, g7, g8⟩
theorem k_lst {d : Nat} {hp : amH} {R : xQ} (hH : bHk 84 bTT hp) (hP : P0 hp) (hR : ∀ (hp1 : amH) (m : Nat), bHk 84 bTT hp1 → P0 hp1 → bFr bLT hp hp1 → Lst hp1 m → R (.inl none) hp1) : xK (d + 1) 211 [.ref 66] hp R := by
  refine xin (M := am_m211) rfl rfl rfl ?_
  refine xald 1 ⟨u211, _, rfl⟩ rfl rfl ?_
  refine xcst 2 (0) ⟨u211, _, rfl⟩ rfl (by decide) (fun z1 h1 => ?_)
  refine xputI 5 hH ⟨u211, _, rfl⟩ rfl rfl ⟨rfl, rfl⟩ (by omega) (by omega) (fun hp2 hH2 U2 => ?_)
  refine xcst 6 (0) ⟨u211, _, rfl⟩ rfl (by decide) (fun z5 h5 => ?_)
  refine xist 7 ⟨u211, _, rfl⟩ rfl rfl ?_
  refine xpad 2 ?_
  refine lj_out hP.1 (fun hp1 m k1 k2 k3 => hR hp1 m k1 (P0_fr hp hp1 (fun c k hc => k2 c k (LT_Pr hc)) hP) k2 (LJ_Lst k2 k3)) 15 0 0 _ _ _ hp2 hH2 (rU_fr U2 (by decide)) ⟨by rw [U2.1, h1]; rfl, ⟨[], gL_nil _ _, rfl⟩, fun k hk => by omega, fun k l _ hl => by omega, fun x y z _ _ _ _ g => by omega⟩ (by omega) (by omega)
end
/-! ##### 17.i.dev ##### -/
section
/-! ===== ways by hand: back and forth; develop ===== -/
theorem P0_no {hp hp1 : amH} {c : Nat} (hP : P0 hp) (hF : bFr [(c, 999)] hp hp1) (h67 : c = 67 → Vf (rN hp1 67)) (h69 : c = 69 → Vf (rN hp1 69)) (h70 : c = 70 → Vf (rN hp1 70)) (h71 : ¬ c = 71) (h66 : ¬ c = 66) : P0 hp1 := by
  have e : ∀ k i, ¬ k = c → rN hp1 k i = rN hp k i := fun k i h => r_fr hF (bIn_ne h)
  refine ⟨?_, fun z => ?_, fun k hk hk2 => ?_, fun z => ?_⟩
  · by_cases h : c = 67
    · exact h67 h
    · exact Vf_eq (fun i _ => e 67 i (fun z => h z.symm)) hP.1
  · by_cases h : c = 70
    · exact h70 h
    · exact Vf_eq (fun i _ => e 70 i (fun z => h z.symm)) (hP.2.1 (by rw [← e 66 6 (fun z => h66 z.symm)]; exact z))
  · exact Vf_eq (fun i _ => e 71 _ (fun z => h71 z.symm)) (hP.2.2.1 k (by rw [← e 66 5 (fun z => h66 z.symm)]; exact hk) hk2)
  · by_cases h : c = 69
    · exact h69 h
    · exact Vf_eq (fun i _ => e 69 i (fun z => h z.symm)) (hP.2.2.2 (by rw [← e 69 0 (fun z => h z.symm)]; exact z))
theorem em_two {x k p : Int} (hx : 0 ≤ x) (hxp : x < p) (hk : 0 ≤ k) (hkp : k < p) : (x + k) % p = x + k ∨ (x + k) % p = x + k - p := by
  rcases Int.lt_or_le (x + k) p with h | h
  · exact Or.inl (Int.emod_eq_of_lt (by omega) h)
  · right
    rw [← Int.sub_emod_right, Int.emod_eq_of_lt (by omega) (by omega)]
theorem k_turn2 {d : Nat} {hp : amH} {R : xQ} {a b : Int32} (hH : bHk 84 bTT hp) (hP : P0 hp) (a1 : 0 ≤ a.toInt) (a2 : a.toInt < rN hp 67 0) (b1 : 0 ≤ b.toInt) (b2 : b.toInt < rN hp 67 0) (hR : ∀ z : Int32, (z.toInt = a.toInt + b.toInt ∨ z.toInt = a.toInt + b.toInt - rN hp 67 0) ∧ 0 ≤ z.toInt ∧ z.toInt < rN hp 67 0 → R (.inl (some (.int z))) hp) : xK (d + 1) 233 [.ref 66, .int a, .int b] hp R := by
  have q2 := hP.1.2.1
  refine k_turned hH hP a1 (by omega) b1 (by omega) (fun z ⟨h1, h2, h3⟩ => hR z ⟨?_, h2, h3⟩)
  rcases em_two a1 a2 b1 b2 with g | g
  · exact Or.inl (h1.trans g)
  · exact Or.inr (h1.trans g)
theorem u237 : bUp 0 am_m237.1 = true := by decide +kernel
theorem u274 : bUp 0 am_m274.1 = true := by decide +kernel
end
/-! ##### 17.j.arr ##### -/
section
/-! ===== ways by hand: the list of triples, as places; remove, swap, turn ===== -/
/-- the lists hold the triples A -/
def Arr (hp : amH) (m : Nat) (A : Nat → Nat × Nat × Nat) : Prop := rN hp 66 12 = (m : Int) ∧ ∀ k, k < m → rN hp 72 k = ((A k).1 : Int) ∧ rN hp 73 k = ((A k).2.1 : Int) ∧ rN hp 74 k = ((A k).2.2 : Int) ∧ rN hp 75 k = b3 (A k).1 (A k).2.1 (A k).2.2
abbrev prA (A : Nat → Nat × Nat × Nat) (k u v : Nat) : Prop := pr (A k).1 (A k).2.1 (A k).2.2 u v
/-- the triples A are those of the third points t, of p points -/
def Sys (t : Nat → Nat → Int) (p : Int) (m : Nat) (A : Nat → Nat × Nat × Nat) : Prop := m ≤ 35 ∧ (∀ k, k < m → (A k).1 < (A k).2.1 ∧ (A k).2.1 < (A k).2.2 ∧ ((A k).2.2 : Int) < p) ∧
  (∀ k u v, k < m → prA A k u v → t u v = ((A k).1 : Int) + (A k).2.1 + (A k).2.2 - u - v) ∧ (∀ k l u v, k < m → l < m → prA A k u v → prA A l u v → k = l) ∧
  (∀ u v, u < 15 → v < 15 → t u v = -1 ∨ ∃ k, k < m ∧ prA A k u v)
def bPA : List (Nat × Nat) := [(72, 999), (73, 999), (74, 999), (75, 999), (66, 12)]
theorem Arr_W {W : List (Nat × Nat)} (hW : bDj W bPA = true) {hp hp1 : amH} (hF : bFr W hp hp1) {m : Nat} {A : Nat → Nat × Nat × Nat} (h : Arr hp m A) : Arr hp1 m A := by
  have e : ∀ c i, bIn bPA c i = true → rN hp1 c i = rN hp c i := fun c i hc => r_fr hF (bDj_s hW c i hc)
  refine ⟨(e 66 12 (by decide)).trans h.1, fun k hk => ?_⟩
  rw [e 72 k (bIn_all (by decide) _), e 73 k (bIn_all (by decide) _), e 74 k (bIn_all (by decide) _), e 75 k (bIn_all (by decide) _)]
  exact h.2 k hk
theorem pr_same {x y z a b c u v : Nat} (h1 : x < y) (h2 : y < z) (h3 : a < b) (h4 : b < c) (hp1 : pr x y z u v) (hp2 : pr a b c u v) (q : (x : Int) + y + z - u - v = (a : Int) + b + c - u - v) : x = a ∧ y = b := by
  obtain ⟨d, e1, e2⟩ := hp1
  obtain ⟨-, f1, f2⟩ := hp2
  rcases e1 with e1 | e1 | e1 <;> rcases e2 with e2 | e2 | e2 <;> first | exact absurd (e1.trans e2.symm) d | (rcases f1 with f1 | f1 | f1 <;> rcases f2 with f2 | f2 | f2 <;> omega)
theorem Lst_A {hp : amH} {m : Nat} (hV : Vf (rN hp 67)) (h : Lst hp m) : ∃ A, Arr hp m A ∧ Sys (tT hp) (rN hp 67 0) m A := by
  obtain ⟨h1, h2, h3, h4, h5⟩ := h
  have hp15 := hV.2.1
  have g : ∀ k, k < m → ∃ x y z : Nat, x < y ∧ y < z ∧ z < 15 ∧ tT hp x y = (z : Int) ∧ (rN hp 72 k).toNat = x ∧ (rN hp 73 k).toNat = y ∧ (rN hp 74 k).toNat = z ∧ rN hp 72 k = (x : Int) ∧ rN hp 73 k = (y : Int) ∧ rN hp 74 k = (z : Int) ∧ rN hp 75 k = b3 x y z := by
    intro k hk
    obtain ⟨x, y, z, g1, g2, g3, g4, g5, g6, g7, g8⟩ := h3 k hk
    exact ⟨x, y, z, g1, g2, g3, g4, by omega, by omega, by omega, g5, g6, g7, g8⟩
  have third : ∀ x y z u v : Nat, x < y → y < z → z < 15 → tT hp x y = (z : Int) → pr x y z u v → tT hp u v = (x : Int) + y + z - u - v := by
    intro x y z u v a b c d ⟨e1, e2, e3⟩
    obtain ⟨t1, t2, t3, t4, t5, t6, t7, t8, t9, t10, t11⟩ := Vf_t hV (by omega) (by omega) d
    rcases e2 with rfl | rfl | rfl <;> rcases e3 with rfl | rfl | rfl <;> first | exact absurd rfl e1 | omega
  refine ⟨fun k => ((rN hp 72 k).toNat, (rN hp 73 k).toNat, (rN hp 74 k).toNat), ⟨h1, fun k hk => ?_⟩, h2, fun k hk => ?_, fun k u v hk hp => ?_, fun k l u v hk hl hp1 hp2 => ?_, fun u v hu hv => ?_⟩
  · obtain ⟨x, y, z, g1, g2, g3, g4, g5, g6, g7, g8, g9, g10, g11⟩ := g k hk
    dsimp only
    rw [g5, g6, g7]
    exact ⟨g8, g9, g10, g11⟩
  · obtain ⟨x, y, z, g1, g2, g3, g4, g5, g6, g7, g8, g9, g10, g11⟩ := g k hk
    dsimp only
    rw [g5, g6, g7]
    exact ⟨g1, g2, (Vf_t hV (by omega) (by omega) g4).2.2.1⟩
  · obtain ⟨x, y, z, g1, g2, g3, g4, g5, g6, g7, g8, g9, g10, g11⟩ := g k hk
    dsimp only [prA] at hp ⊢
    rw [g5, g6, g7] at hp ⊢
    exact third x y z u v g1 g2 g3 g4 hp
  · obtain ⟨x, y, z, g1, g2, g3, g4, g5, g6, g7, g8, g9, g10, g11⟩ := g k hk
    obtain ⟨a, b, c, k1, k2, k3, k4, k5, k6, k7, k8, k9, k10, k11⟩ := g l hl
    dsimp only [prA] at hp1 hp2
    rw [g5, g6, g7] at hp1
    rw [k5, k6, k7] at hp2
    have q1 := third x y z u v g1 g2 g3 g4 hp1
    have q2 := third a b c u v k1 k2 k3 k4 hp2
    have hxa : x = a ∧ y = b := pr_same g1 g2 k1 k2 hp1 hp2 (q1.symm.trans q2)
    rcases Nat.lt_trichotomy k l with z1 | z1 | z1
    · have := h4 k l z1 hl
      omega
    · exact z1
    · have := h4 l k z1 hk
      omega
  · rcases Vf_m hV hu hv with q | ⟨w, hw, q⟩
    · exact Or.inl q
    · right
      obtain ⟨t1, t2, t3, t4, t5, t6, t7, t8, t9, t10, t11⟩ := Vf_t hV hu hv q
      have key : ∀ x y z : Nat, x < y → y < z → z < 15 → tT hp x y = (z : Int) → pr x y z u v → ∃ k, k < m ∧ pr (rN hp 72 k).toNat (rN hp 73 k).toNat (rN hp 74 k).toNat u v := by
        intro x y z a b c d e
        obtain ⟨k, k1, k2, k3, k4⟩ := h5 x y z a b c d
        refine ⟨k, k1, ?_⟩
        rw [k2, k3, k4]
        exact e
      rcases Nat.lt_or_ge u v with uv | uv
      · rcases Nat.lt_or_ge v w with vw | vw
        · exact key u v w uv vw hw q ⟨by omega, by omega, by omega⟩
        · rcases Nat.lt_or_ge u w with uw | uw
          · exact key u w v uw (by omega) hv t8 ⟨by omega, by omega, by omega⟩
          · exact key w u v (by omega) uv hv t10 ⟨by omega, by omega, by omega⟩
      · rcases Nat.lt_or_ge u w with uw | uw
        · exact key v u w (by omega) uw hw t7 ⟨by omega, by omega, by omega⟩
        · rcases Nat.lt_or_ge v w with vw | vw
          · exact key v w u vw (by omega) hu t9 ⟨by omega, by omega, by omega⟩
          · exact key w v u (by omega) (by omega) hu t11 ⟨by omega, by omega, by omega⟩
theorem Sys_x {t : Nat → Nat → Int} {p : Int} {m : Nat} {A : Nat → Nat × Nat × Nat} (h : Sys t p m A) {k : Nat} (hk : k < m) : t (A k).1 (A k).2.1 = ((A k).2.2 : Int) := by
  have := h.2.1 k hk
  rw [h.2.2.1 k _ _ hk ⟨by omega, Or.inl rfl, Or.inr (Or.inl rfl)⟩]
  omega
def wNT : List (Nat × Nat) := (66, 7) :: bLT
theorem u257 : bUp 0 am_m257.1 = true := by decide +kernel
theorem u273 : bUp 0 am_m273.1 = true := by decide +kernel
theorem u279 : bUp 0 am_m279.1 = true := by decide +kernel
theorem u280 : bUp 0 am_m280.1 = true := by decide +kernel
theorem u281 : bUp 0 am_m281.1 = true := by decide +kernel
end
/-! ##### 17.k.swap ##### -/
section
/-! ===== ways by hand: swap, turn ===== -/
theorem k_swapped {d : Nat} {hp : amH} {R : xQ} {p a b : Int32} (hR : ∀ z : Int32, (z.toInt = if p.toInt = a.toInt then b.toInt else if p.toInt = b.toInt then a.toInt else p.toInt) → R (.inl (some (.int z))) hp) : xK d 280 [.int p, .int a, .int b] hp R := by
  refine xin (M := am_m280) rfl rfl rfl ?_
  refine xild 1 ⟨u280, _, rfl⟩ rfl rfl ?_
  refine xild 2 ⟨u280, _, rfl⟩ rfl rfl ?_
  refine xcmp_ne 5 ⟨u280, _, rfl⟩ rfl (fun c2 => ?_) (fun c2 => ?_)
  · refine xild 10 ⟨u280, _, rfl⟩ rfl rfl ?_
    refine xild 11 ⟨u280, _, rfl⟩ rfl rfl ?_
    refine xcmp_ne 14 ⟨u280, _, rfl⟩ rfl (fun c11 => ?_) (fun c11 => ?_)
    · refine xild 19 ⟨u280, _, rfl⟩ rfl rfl ?_
      exact xret ⟨u280, _, rfl⟩ rfl (hR _ (by rw [if_neg (by omega), if_neg (by omega)]))
    · refine xild 15 ⟨u280, _, rfl⟩ rfl rfl ?_
      refine xgoto ⟨u280, _, rfl⟩ ?_
      exact xret ⟨u280, _, rfl⟩ rfl (hR _ (by rw [if_neg (by omega), if_pos (by omega)]))
  · refine xild 6 ⟨u280, _, rfl⟩ rfl rfl ?_
    refine xgoto ⟨u280, _, rfl⟩ ?_
    exact xret ⟨u280, _, rfl⟩ rfl (hR _ (by rw [if_pos (by omega)]))
theorem xremG {M : amM} {pc a b d : Nat} {L : List (Option Value)} {st : List Value} {hp : amH} {Q : xQ} (q : Nat) {x y : Int32} (h : xI M pc .irem a b) (e : q = pc + 1) (hy : 0 < y.toInt) (hw : ∀ z : Int32, z.toInt = x.toInt.tmod y.toInt → xV d M q L (.int z :: st) hp Q) : xV d M pc L (.int y :: .int x :: st) hp Q := by
  have hy0 : ¬ y = 0 := fun z => by rw [z] at hy; exact absurd hy (by decide)
  refine xstep h (fun cl hl => ⟨cl, ?_, hl⟩) (hw (x - x / y * y) (rem_toInt _ _))
  subst e
  simp [amDo, amStep, amDiv, hy0]
def bv (k p : Int) : Int := if k.tmod p < 0 then k.tmod p + p else k.tmod p
theorem bv_in {k p : Int} (hp : 0 < p) : 0 ≤ bv k p ∧ bv k p < p := by
  have h1 : (k.tmod p).natAbs < p.natAbs := by
    rw [Int.natAbs_tmod]
    exact Nat.mod_lt _ (by omega)
  unfold bv
  split <;> omega
theorem u234 : bUp 0 am_m234.1 = true := by decide +kernel
theorem k_by {d : Nat} {hp : amH} {R : xQ} {k : Int32} (hH : bHk 84 bTT hp) (hP : P0 hp) (hR : ∀ z : Int32, z.toInt = bv k.toInt (rN hp 67 0) → R (.inl (some (.int z))) hp) : xK (d + 1) 234 [.ref 66, .int k] hp R := by
  refine xin (M := am_m234) rfl rfl rfl ?_
  have q1 := hP.1.1
  have q2 := hP.1.2.1
  have hb := bv_in (k := k.toInt) (p := rN hp 67 0) (by omega)
  refine xild 1 ⟨u234, _, rfl⟩ rfl rfl ?_
  refine xald 2 ⟨u234, _, rfl⟩ rfl rfl ?_
  refine xcall 5 [.ref 66] [.int _] hH ⟨u234, _, rfl⟩ rfl rfl rfl rfl rfl (k_points hH (fun z2 h2 => ⟨_, rfl, ?_⟩))
  refine xremG 6 ⟨u234, _, rfl⟩ rfl (by omega) (fun z5 h5 => ?_)
  rw [h2] at h5
  have hlt : (k.toInt.tmod (rN hp 67 0)).natAbs < (rN hp 67 0).natAbs := by
    rw [Int.natAbs_tmod]
    exact Nat.mod_lt _ (by omega)
  refine xist 7 ⟨u234, _, rfl⟩ rfl rfl ?_
  refine xild 8 ⟨u234, _, rfl⟩ rfl rfl ?_
  refine xif_ge 11 ⟨u234, _, rfl⟩ rfl (fun c8 => ?_) (fun c8 => ?_)
  · refine xild 21 ⟨u234, _, rfl⟩ rfl rfl ?_
    exact xret ⟨u234, _, rfl⟩ rfl (hR _ (by unfold bv; rw [if_neg (by omega)]; exact h5))
  · refine xild 12 ⟨u234, _, rfl⟩ rfl rfl ?_
    refine xald 13 ⟨u234, _, rfl⟩ rfl rfl ?_
    refine xcall 16 [.ref 66] [.int _] hH ⟨u234, _, rfl⟩ rfl rfl rfl rfl rfl (k_points hH (fun z13 h13 => ⟨_, rfl, ?_⟩))
    refine xadd 17 _ ⟨u234, _, rfl⟩ rfl rfl (by omega) (by omega) (fun z16 h16 => ?_)
    refine xgoto ⟨u234, _, rfl⟩ ?_
    exact xret ⟨u234, _, rfl⟩ rfl (hR _ (by unfold bv; rw [if_pos (by omega)]; omega))
end
/-! ##### 17.l.swap ##### -/
section
/-! ===== ways by hand: swap and turn from outside ===== -/
theorem P0_68 {hp hp1 : amH} (hF : bFr [(68, 999)] hp hp1) (hP : P0 hp) : P0 hp1 := P0_no hP hF (fun z => absurd z (by decide)) (fun z => absurd z (by decide)) (fun z => absurd z (by decide)) (by decide) (by decide)
end
/-! ##### 17.m.comp ##### -/
section
/-! ===== ways by hand: completions ===== -/
theorem xaddw {M : amM} {pc a b d : Nat} {L : List (Option Value)} {st : List Value} {hp : amH} {Q : xQ} (q : Nat) {x y : Int32} (h : xI M pc .iadd a b) (e : q = pc + 1) (hw : ∀ z : Int32, xV d M q L (.int z :: st) hp Q) : xV d M pc L (.int y :: .int x :: st) hp Q := by
  refine xstep h (fun cl hl => ⟨cl, ?_, hl⟩) (hw (x + y))
  subst e
  simp [amDo, amStep, amII]
theorem u282 : bUp 0 am_m282.1 = true := by decide +kernel
theorem u283 : bUp 0 am_m283.1 = true := by decide +kernel
theorem u284 : bUp 0 am_m284.1 = true := by decide +kernel
theorem u285 : bUp 0 am_m285.1 = true := by decide +kernel
theorem l282 {d : Nat} {hp : amH} {R : xQ} (hH : bHk 84 bTT hp) (hP : P0 hp) {a b : Int32} (a1 : 0 ≤ a.toInt) (a2 : a.toInt < 15) (b1 : 0 ≤ b.toInt) (b2 : b.toInt < 15) (hR : ∀ z : Int32, R (.inl (some (.int z))) hp) : ∀ (j : Nat) (n c : Int32), c.toInt + (j : Int) = 15 → 0 ≤ c.toInt → 0 ≤ n.toInt → n.toInt ≤ c.toInt → xV (d + 4) am_m282 5 [some (.ref 66), some (.int a), some (.int b), some (.int n), some (.int c)] [] hp R := by
  have q1 := hP.1.1
  have q2 := hP.1.2.1
  intro j
  induction j using Nat.strongRecOn with
  | ind j ih =>
    intro n c hj c0 n0 n1
    refine xild2 7 ⟨u282, _, rfl⟩ rfl rfl ?_
    refine xald 8 ⟨u282, _, rfl⟩ rfl rfl ?_
    refine xcall 11 [.ref 66] [.int _] hH ⟨u282, _, rfl⟩ rfl rfl rfl rfl rfl (k_points hH (fun z8 h8 => ⟨_, rfl, ?_⟩))
    refine xcmp_ge 14 ⟨u282, _, rfl⟩ rfl (fun c11 => ?_) (fun c11 => ?_)
    · refine xild 52 ⟨u282, _, rfl⟩ rfl rfl ?_
      exact xret ⟨u282, _, rfl⟩ rfl (hR _)
    · refine xild 15 ⟨u282, _, rfl⟩ rfl rfl ?_
      refine xild2 17 ⟨u282, _, rfl⟩ rfl rfl ?_
      refine xild 18 ⟨u282, _, rfl⟩ rfl rfl ?_
      refine xcmp_eq 21 ⟨u282, _, rfl⟩ rfl (fun c18 => ?_) (fun c18 => ?_)
      · refine xcst 43 (0) ⟨u282, _, rfl⟩ rfl (by decide) (fun z42 h42 => ?_)
        refine xadd 44 _ ⟨u282, _, rfl⟩ rfl rfl (by omega) (by omega) (fun z43 h43 => ?_)
        refine xist 45 ⟨u282, _, rfl⟩ rfl rfl ?_
        refine xinc 48 (1) ⟨u282, _, rfl⟩ rfl rfl rfl (by decide) (by omega) (by omega) (fun z45 h45 => ?_)
        refine xgoto ⟨u282, _, rfl⟩ ?_
        exact ih (j - 1) (by omega) _ _ (by omega) (by omega) (by omega) (by omega)
      · refine xild2 23 ⟨u282, _, rfl⟩ rfl rfl ?_
        refine xild 24 ⟨u282, _, rfl⟩ rfl rfl ?_
        refine xcmp_eq 27 ⟨u282, _, rfl⟩ rfl (fun c24 => ?_) (fun c24 => ?_)
        · refine xcst 43 (0) ⟨u282, _, rfl⟩ rfl (by decide) (fun z42 h42 => ?_)
          refine xadd 44 _ ⟨u282, _, rfl⟩ rfl rfl (by omega) (by omega) (fun z43 h43 => ?_)
          refine xist 45 ⟨u282, _, rfl⟩ rfl rfl ?_
          refine xinc 48 (1) ⟨u282, _, rfl⟩ rfl rfl rfl (by decide) (by omega) (by omega) (fun z45 h45 => ?_)
          refine xgoto ⟨u282, _, rfl⟩ ?_
          exact ih (j - 1) (by omega) _ _ (by omega) (by omega) (by omega) (by omega)
        · refine xald 28 ⟨u282, _, rfl⟩ rfl rfl ?_
          refine xild 29 ⟨u282, _, rfl⟩ rfl rfl ?_
          refine xild 30 ⟨u282, _, rfl⟩ rfl rfl ?_
          refine xild2 32 ⟨u282, _, rfl⟩ rfl rfl ?_
          refine xcall 35 [.ref 66, .int _, .int _, .int _] [.int _] hH ⟨u282, _, rfl⟩ rfl rfl rfl rfl rfl (k_free hH (by omega) (by omega) (by omega) (by omega) (by omega) (by omega) (fun z32 h32 => ⟨_, rfl, ?_⟩))
          refine xif_eq 38 ⟨u282, _, rfl⟩ rfl (fun c35 => ?_) (fun c35 => ?_)
          · refine xcst 43 (0) ⟨u282, _, rfl⟩ rfl (by decide) (fun z42 h42 => ?_)
            refine xadd 44 _ ⟨u282, _, rfl⟩ rfl rfl (by omega) (by omega) (fun z43 h43 => ?_)
            refine xist 45 ⟨u282, _, rfl⟩ rfl rfl ?_
            refine xinc 48 (1) ⟨u282, _, rfl⟩ rfl rfl rfl (by decide) (by omega) (by omega) (fun z45 h45 => ?_)
            refine xgoto ⟨u282, _, rfl⟩ ?_
            exact ih (j - 1) (by omega) _ _ (by omega) (by omega) (by omega) (by omega)
          · refine xcst 39 (1) ⟨u282, _, rfl⟩ rfl (by decide) (fun z38 h38 => ?_)
            refine xgoto ⟨u282, _, rfl⟩ ?_
            refine xadd 44 _ ⟨u282, _, rfl⟩ rfl rfl (by omega) (by omega) (fun z43 h43 => ?_)
            refine xist 45 ⟨u282, _, rfl⟩ rfl rfl ?_
            refine xinc 48 (1) ⟨u282, _, rfl⟩ rfl rfl rfl (by decide) (by omega) (by omega) (fun z45 h45 => ?_)
            refine xgoto ⟨u282, _, rfl⟩ ?_
            exact ih (j - 1) (by omega) _ _ (by omega) (by omega) (by omega) (by omega)
theorem k_ways {d : Nat} {hp : amH} {R : xQ} {a b : Int32} (hH : bHk 84 bTT hp) (hP : P0 hp) (a1 : 0 ≤ a.toInt) (a2 : a.toInt < 15) (b1 : 0 ≤ b.toInt) (b2 : b.toInt < 15) (hR : ∀ z : Int32, R (.inl (some (.int z))) hp) : xK (d + 4) 282 [.ref 66, .int a, .int b] hp R := by
  refine xin (M := am_m282) rfl rfl rfl ?_
  refine xcst 1 (0) ⟨u282, _, rfl⟩ rfl (by decide) (fun z0 h0 => ?_)
  refine xist 2 ⟨u282, _, rfl⟩ rfl rfl ?_
  refine xcst 3 (0) ⟨u282, _, rfl⟩ rfl (by decide) (fun z2 h2 => ?_)
  refine xist2 5 ⟨u282, _, rfl⟩ rfl rfl ?_
  exact l282 hH hP a1 a2 b1 b2 hR 15 _ _ (by omega) (by omega) (by omega) (by omega)
/-- a pair's number, or none -/
def Bst (hp : amH) (z : Int) : Prop := z = -1 ∨ ∃ a b : Nat, a < b ∧ (b : Int) < rN hp 67 0 ∧ z = 16 * (a : Int) + b
theorem l283b {d : Nat} {hp : amH} {R : xQ} (hH : bHk 84 bTT hp) (hP : P0 hp) {a : Int32} {aa : Int} (a0 : 0 ≤ a.toInt) (ha : a.toInt = aa) (hQ : ∀ (t l a1 : Int32) (v w : Option Value), Bst hp t.toInt → a1.toInt = aa + 1 → xV (d + 5) am_m283 6 [some (.ref 66), some (.int t), some (.int l), some (.int a1), v, w] [] hp R) : ∀ (j : Nat) (t l b : Int32) (v : Option Value), b.toInt + (j : Int) = 15 → a.toInt < b.toInt → Bst hp t.toInt → xV (d + 5) am_m283 19 [some (.ref 66), some (.int t), some (.int l), some (.int a), some (.int b), v] [] hp R := by
  have q1 := hP.1.1
  have q2 := hP.1.2.1
  intro j
  induction j using Nat.strongRecOn with
  | ind j ih =>
    intro t l b v hj b0 hb
    refine xild2 21 ⟨u283, _, rfl⟩ rfl rfl ?_
    refine xald 22 ⟨u283, _, rfl⟩ rfl rfl ?_
    refine xcall 25 [.ref 66] [.int _] hH ⟨u283, _, rfl⟩ rfl rfl rfl rfl rfl (k_points hH (fun z22 h22 => ⟨_, rfl, ?_⟩))
    refine xcmp_ge 28 ⟨u283, _, rfl⟩ rfl (fun c25 => ?_) (fun c25 => ?_)
    · refine xinc 85 (1) ⟨u283, _, rfl⟩ rfl rfl rfl (by decide) (by omega) (by omega) (fun z82 h82 => ?_)
      refine xgoto ⟨u283, _, rfl⟩ ?_
      exact hQ _ _ _ _ _ hb (by omega)
    · refine xald 29 ⟨u283, _, rfl⟩ rfl rfl ?_
      refine xild 30 ⟨u283, _, rfl⟩ rfl rfl ?_
      refine xild2 32 ⟨u283, _, rfl⟩ rfl rfl ?_
      refine xcall 35 [.ref 66, .int _, .int _] [] hH ⟨u283, _, rfl⟩ rfl rfl rfl rfl rfl (k_third hH (by omega) (by omega) (by omega) (by omega) (fun z32 h32 => ⟨_, rfl, ?_⟩))
      refine xcst 36 (-1) ⟨u283, _, rfl⟩ rfl (by decide) (fun z35 h35 => ?_)
      refine xcmp_eq 39 ⟨u283, _, rfl⟩ rfl (fun c36 => ?_) (fun c36 => ?_)
      · refine xald 43 ⟨u283, _, rfl⟩ rfl rfl ?_
        refine xild 44 ⟨u283, _, rfl⟩ rfl rfl ?_
        refine xild2 46 ⟨u283, _, rfl⟩ rfl rfl ?_
        refine xcall 49 [.ref 66, .int _, .int _] [] hH ⟨u283, _, rfl⟩ rfl rfl rfl rfl rfl (k_ways hH hP (by omega) (by omega) (by omega) (by omega) (fun z46 => ⟨_, rfl, ?_⟩))
        refine xist2 51 ⟨u283, _, rfl⟩ rfl rfl ?_
        refine xild 52 ⟨u283, _, rfl⟩ rfl rfl ?_
        refine xcst 53 (-1) ⟨u283, _, rfl⟩ rfl (by decide) (fun z52 h52 => ?_)
        refine xcmp_eq 56 ⟨u283, _, rfl⟩ rfl (fun c53 => ?_) (fun c53 => ?_)
        · refine xbip 67 (16) ⟨u283, _, rfl⟩ rfl (by decide) (fun z65 h65 => ?_)
          refine xild 68 ⟨u283, _, rfl⟩ rfl rfl ?_
          refine xmul 69 (16 * Int32.toInt a) ⟨u283, _, rfl⟩ rfl (by rw [h65]) (by omega) (by omega) (fun z68 h68 => ?_)
          refine xild2 71 ⟨u283, _, rfl⟩ rfl rfl ?_
          refine xadd 72 _ ⟨u283, _, rfl⟩ rfl rfl (by omega) (by omega) (fun z71 h71 => ?_)
          refine xist 73 ⟨u283, _, rfl⟩ rfl rfl ?_
          refine xild2 75 ⟨u283, _, rfl⟩ rfl rfl ?_
          refine xist 76 ⟨u283, _, rfl⟩ rfl rfl ?_
          refine xinc 79 (1) ⟨u283, _, rfl⟩ rfl rfl rfl (by decide) (by omega) (by omega) (fun z76 h76 => ?_)
          refine xgoto ⟨u283, _, rfl⟩ ?_
          exact ih (j - 1) (by omega) _ _ _ _ (by omega) (by omega) (Or.inr ⟨a.toInt.toNat, b.toInt.toNat, by omega, by omega, by omega⟩)
        · refine xild2 58 ⟨u283, _, rfl⟩ rfl rfl ?_
          refine xild 59 ⟨u283, _, rfl⟩ rfl rfl ?_
          refine xcmp_lt 62 ⟨u283, _, rfl⟩ rfl (fun c59 => ?_) (fun c59 => ?_)
          · refine xbip 67 (16) ⟨u283, _, rfl⟩ rfl (by decide) (fun z65 h65 => ?_)
            refine xild 68 ⟨u283, _, rfl⟩ rfl rfl ?_
            refine xmul 69 (16 * Int32.toInt a) ⟨u283, _, rfl⟩ rfl (by rw [h65]) (by omega) (by omega) (fun z68 h68 => ?_)
            refine xild2 71 ⟨u283, _, rfl⟩ rfl rfl ?_
            refine xadd 72 _ ⟨u283, _, rfl⟩ rfl rfl (by omega) (by omega) (fun z71 h71 => ?_)
            refine xist 73 ⟨u283, _, rfl⟩ rfl rfl ?_
            refine xild2 75 ⟨u283, _, rfl⟩ rfl rfl ?_
            refine xist 76 ⟨u283, _, rfl⟩ rfl rfl ?_
            refine xinc 79 (1) ⟨u283, _, rfl⟩ rfl rfl rfl (by decide) (by omega) (by omega) (fun z76 h76 => ?_)
            refine xgoto ⟨u283, _, rfl⟩ ?_
            exact ih (j - 1) (by omega) _ _ _ _ (by omega) (by omega) (Or.inr ⟨a.toInt.toNat, b.toInt.toNat, by omega, by omega, by omega⟩)
          · refine xgoto ⟨u283, _, rfl⟩ ?_
            refine xinc 79 (1) ⟨u283, _, rfl⟩ rfl rfl rfl (by decide) (by omega) (by omega) (fun z76 h76 => ?_)
            refine xgoto ⟨u283, _, rfl⟩ ?_
            exact ih (j - 1) (by omega) _ _ _ _ (by omega) (by omega) hb
      · refine xgoto ⟨u283, _, rfl⟩ ?_
        refine xinc 79 (1) ⟨u283, _, rfl⟩ rfl rfl rfl (by decide) (by omega) (by omega) (fun z76 h76 => ?_)
        refine xgoto ⟨u283, _, rfl⟩ ?_
        exact ih (j - 1) (by omega) _ _ _ _ (by omega) (by omega) hb
theorem l283a {d : Nat} {hp : amH} {R : xQ} (hH : bHk 84 bTT hp) (hP : P0 hp) (hR : ∀ z : Int32, Bst hp z.toInt → R (.inl (some (.int z))) hp) : ∀ (j : Nat) (t l a : Int32) (v w : Option Value), a.toInt + (j : Int) = 15 → 0 ≤ a.toInt → Bst hp t.toInt → xV (d + 5) am_m283 6 [some (.ref 66), some (.int t), some (.int l), some (.int a), v, w] [] hp R := by
  have q1 := hP.1.1
  have q2 := hP.1.2.1
  intro j
  induction j using Nat.strongRecOn with
  | ind j ih =>
    intro t l a v w hj a0 hb
    refine xild 7 ⟨u283, _, rfl⟩ rfl rfl ?_
    refine xald 8 ⟨u283, _, rfl⟩ rfl rfl ?_
    refine xcall 11 [.ref 66] [.int _] hH ⟨u283, _, rfl⟩ rfl rfl rfl rfl rfl (k_points hH (fun z8 h8 => ⟨_, rfl, ?_⟩))
    refine xcmp_ge 14 ⟨u283, _, rfl⟩ rfl (fun c11 => ?_) (fun c11 => ?_)
    · refine xild 89 ⟨u283, _, rfl⟩ rfl rfl ?_
      exact xret ⟨u283, _, rfl⟩ rfl (hR _ hb)
    · refine xild 15 ⟨u283, _, rfl⟩ rfl rfl ?_
      refine xcst 16 (1) ⟨u283, _, rfl⟩ rfl (by decide) (fun z15 h15 => ?_)
      refine xadd 17 _ ⟨u283, _, rfl⟩ rfl rfl (by omega) (by omega) (fun z16 h16 => ?_)
      refine xist2 19 ⟨u283, _, rfl⟩ rfl rfl ?_
      exact l283b hH hP (aa := a.toInt) a0 rfl (fun t1 l1 a1 v1 w1 k1 k2 => ih (j - 1) (by omega) _ _ _ _ _ (by omega) (by omega) k1) (14 - a.toInt).toNat _ _ _ _ (by omega) (by omega) hb
theorem k_tight {d : Nat} {hp : amH} {R : xQ} (hH : bHk 84 bTT hp) (hP : P0 hp) (hR : ∀ z : Int32, Bst hp z.toInt → R (.inl (some (.int z))) hp) : xK (d + 5) 283 [.ref 66] hp R := by
  refine xin (M := am_m283) rfl rfl rfl ?_
  refine xcst 1 (-1) ⟨u283, _, rfl⟩ rfl (by decide) (fun z0 h0 => ?_)
  refine xist 2 ⟨u283, _, rfl⟩ rfl rfl ?_
  refine xcst 3 (0) ⟨u283, _, rfl⟩ rfl (by decide) (fun z2 h2 => ?_)
  refine xist 4 ⟨u283, _, rfl⟩ rfl rfl ?_
  refine xcst 5 (0) ⟨u283, _, rfl⟩ rfl (by decide) (fun z4 h4 => ?_)
  refine xist 6 ⟨u283, _, rfl⟩ rfl rfl ?_
  refine xpad 2 ?_
  exact l283a hH hP hR 15 _ _ _ _ _ (by omega) (by omega) (Or.inl h0)
/-- how many pairs are uncovered -/
def unc (hp : amH) : Nat := ((List.range 225).filter (fun s => decide (tT hp (s / 15) (s % 15) = -1))).length
theorem fl_lt {p q : Nat → Bool} : ∀ {L : List Nat}, (∀ s ∈ L, q s = true → p s = true) → (∃ s ∈ L, p s = true ∧ q s = false) → (L.filter q).length < (L.filter p).length
  | [], _, ⟨s, h, _⟩ => by cases h
  | x :: r, h, ⟨s, hs, h1, h2⟩ => by
    have le : ∀ {L : List Nat}, (∀ s ∈ L, q s = true → p s = true) → (L.filter q).length ≤ (L.filter p).length := by
      intro L
      induction L with
      | nil => intro _; exact Nat.le_refl _
      | cons y t ih =>
        intro hl
        have ih := ih (fun s hs => hl s (List.mem_cons_of_mem _ hs))
        have hy := hl y List.mem_cons_self
        simp only [List.filter_cons]
        cases e1 : q y
        · cases e2 : p y
          · simpa using ih
          · simp only [Bool.false_eq_true, if_false, if_true, List.length_cons]
            omega
        · rw [hy e1]
          simp only [if_true, List.length_cons]
          omega
    have hx := h x List.mem_cons_self
    have hr : ∀ s ∈ r, q s = true → p s = true := fun s hs => h s (List.mem_cons_of_mem _ hs)
    simp only [List.filter_cons]
    rcases List.mem_cons.mp hs with z | z
    · subst z
      rw [h1, h2]
      have := le hr
      simp only [Bool.false_eq_true, if_false, if_true, List.length_cons]
      omega
    · have := fl_lt hr ⟨s, z, h1, h2⟩
      cases e1 : q x
      · cases e2 : p x
        · simpa using this
        · simp only [Bool.false_eq_true, if_false, if_true, List.length_cons]
          omega
      · rw [hx e1]
        simp only [if_true, List.length_cons]
        omega
theorem unc_lt {hp hp1 : amH} {x y z : Nat} (hx : x < 15) (hy : y < 15) (hxy : ¬ x = y) (hf : tT hp x y = -1) {f : Nat → Nat → Int} (hfx : ¬ f x y = -1) (hfr : ∀ u v, pr x y z u v → tT hp u v = -1) (hT : ∀ u v, u < 15 → v < 15 → tT hp1 u v = if pr x y z u v then f u v else tT hp u v) : unc hp1 < unc hp := by
  unfold unc
  refine fl_lt (fun s hs h => ?_) ⟨15 * x + y, List.mem_range.mpr (by omega), ?_, ?_⟩
  · have hs := List.mem_range.mp hs
    have h := of_decide_eq_true h
    refine decide_eq_true ?_
    rw [hT _ _ (by omega) (by omega)] at h
    split at h
    · next e => exact hfr _ _ e
    · exact h
  · rw [show (15 * x + y) / 15 = x by omega, show (15 * x + y) % 15 = y by omega]
    exact decide_eq_true hf
  · rw [show (15 * x + y) / 15 = x by omega, show (15 * x + y) % 15 = y by omega]
    refine decide_eq_false ?_
    rw [hT x y hx hy, if_pos ⟨hxy, Or.inl rfl, Or.inr (Or.inl rfl)⟩]
    exact hfx
theorem unc_le (hp : amH) : unc hp ≤ 225 := by
  unfold unc
  have := List.length_filter_le (fun s => decide (tT hp (s / 15) (s % 15) = -1)) (List.range 225)
  rw [List.length_range] at this
  exact this
theorem unc_eq {hp hp1 : amH} (h : ∀ i, i < 229 → rN hp1 67 i = rN hp 67 i) : unc hp1 = unc hp := by
  unfold unc
  congr 1
  refine List.filter_congr (fun s hs => ?_)
  have hs := List.mem_range.mp hs
  unfold tT
  rw [h _ (by omega)]
theorem fr3_all {hp : amH} (hV : Vf (rN hp 67)) {x y z : Nat} (hx : x < 15) (hy : y < 15) (hz : z < 15) (hf : fr3 hp x y z) : ∀ u v, pr x y z u v → tT hp u v = -1 := by
  intro u v ⟨g1, g2, g3⟩
  obtain ⟨f1, f2, f3⟩ := hf
  have s1 := Vf_sym hV (a := x) (b := y) hx hy
  have s2 := Vf_sym hV (a := y) (b := z) hy hz
  have s3 := Vf_sym hV (a := x) (b := z) hx hz
  rcases g2 with rfl | rfl | rfl <;> rcases g3 with rfl | rfl | rfl <;> first | exact absurd rfl g1 | assumption | omega
theorem l284 {d : Nat} {hp0 : amH} {R : xQ} {t a b : Int32} (a0 : 0 ≤ a.toInt) (ab : a.toInt < b.toInt) (b1 : b.toInt < rN hp0 67 0) (hrec : (∀ hp1, bHk 84 bTT hp1 → P0 hp1 → unc hp1 < unc hp0 → ∀ R1 : xQ, (∀ (z : Int32) hp2, bHk 84 bTT hp2 → P0 hp2 → bFr [(67, 999)] hp1 hp2 → (∀ i, i < 229 → rN hp2 67 i = rN hp1 67 i) → R1 (.inl (some (.int z))) hp2) → xK (d + 5) 284 [.ref 66] hp1 R1)) (hR : (∀ (z : Int32) hp1, bHk 84 bTT hp1 → P0 hp1 → bFr [(67, 999)] hp0 hp1 → (∀ i, i < 229 → rN hp1 67 i = rN hp0 67 i) → R (.inl (some (.int z))) hp1)) :
    ∀ (j : Nat) (n c : Int32) (hp : amH), bHk 84 bTT hp → P0 hp → bFr [(67, 999)] hp0 hp → (∀ i, i < 229 → rN hp 67 i = rN hp0 67 i) → c.toInt + (j : Int) = 15 → 0 ≤ c.toInt → xV (d + 6) am_m284 28 [some (.ref 66), some (.int t), some (.int a), some (.int b), some (.int n), some (.int c)] [] hp R := by
  intro j
  induction j using Nat.strongRecOn with
  | ind j ih =>
    intro n c hp hH hP hF hE hj c0
    have q1 := hP.1.1
    have q2 := hP.1.2.1
    have e0 := hE 0 (by omega)
    refine xild2 30 ⟨u284, _, rfl⟩ rfl rfl ?_
    refine xald 31 ⟨u284, _, rfl⟩ rfl rfl ?_
    refine xcall 34 [.ref 66] [.int _] hH ⟨u284, _, rfl⟩ rfl rfl rfl rfl rfl (k_points hH (fun z31 h31 => ⟨_, rfl, ?_⟩))
    refine xcmp_ge 37 ⟨u284, _, rfl⟩ rfl (fun c34 => ?_) (fun c34 => ?_)
    · refine xild2 96 ⟨u284, _, rfl⟩ rfl rfl ?_
      exact xret ⟨u284, _, rfl⟩ rfl (hR _ hp hH hP hF hE)
    · refine xild2 39 ⟨u284, _, rfl⟩ rfl rfl ?_
      refine xild 40 ⟨u284, _, rfl⟩ rfl rfl ?_
      refine xcmp_eq 43 ⟨u284, _, rfl⟩ rfl (fun c40 => ?_) (fun c40 => ?_)
      · refine xinc 91 (1) ⟨u284, _, rfl⟩ rfl rfl rfl (by decide) (by omega) (by omega) (fun z88 h88 => ?_)
        refine xgoto ⟨u284, _, rfl⟩ ?_
        exact ih (j - 1) (by omega) _ _ _ hH hP hF hE (by omega) (by omega)
      · refine xild2 45 ⟨u284, _, rfl⟩ rfl rfl ?_
        refine xild 46 ⟨u284, _, rfl⟩ rfl rfl ?_
        refine xcmp_eq 49 ⟨u284, _, rfl⟩ rfl (fun c46 => ?_) (fun c46 => ?_)
        · refine xinc 91 (1) ⟨u284, _, rfl⟩ rfl rfl rfl (by decide) (by omega) (by omega) (fun z88 h88 => ?_)
          refine xgoto ⟨u284, _, rfl⟩ ?_
          exact ih (j - 1) (by omega) _ _ _ hH hP hF hE (by omega) (by omega)
        · refine xald 50 ⟨u284, _, rfl⟩ rfl rfl ?_
          refine xild 51 ⟨u284, _, rfl⟩ rfl rfl ?_
          refine xild 52 ⟨u284, _, rfl⟩ rfl rfl ?_
          refine xild2 54 ⟨u284, _, rfl⟩ rfl rfl ?_
          refine xcall 57 [.ref 66, .int _, .int _, .int _] [] hH ⟨u284, _, rfl⟩ rfl rfl rfl rfl rfl (k_free hH (by omega) (by omega) (by omega) (by omega) (by omega) (by omega) (fun z54 h54 => ⟨_, rfl, ?_⟩))
          refine xif_ne 60 ⟨u284, _, rfl⟩ rfl (fun c57 => ?_) (fun c57 => ?_)
          · refine xald 64 ⟨u284, _, rfl⟩ rfl rfl ?_
            refine xild 65 ⟨u284, _, rfl⟩ rfl rfl ?_
            refine xild 66 ⟨u284, _, rfl⟩ rfl rfl ?_
            refine xild2 68 ⟨u284, _, rfl⟩ rfl rfl ?_
            have ff : fr3 hp a.toInt.toNat b.toInt.toNat c.toInt.toNat := by rcases h54 with g | g <;> first | exact g.2 | omega
            have fa := fr3_all hP.1 (by omega) (by omega) (by omega) ff
            refine xcall 71 [.ref 66, .int _, .int _, .int _] [] hH ⟨u284, _, rfl⟩ rfl rfl rfl rfl rfl (k_put hH hP (by omega) (by omega) (by omega) (by omega) (by omega) (by omega) (by omega) (by omega) (by omega) (by rcases h54 with g | g <;> first | exact g.2 | omega) (fun hp68 hH68 hP68 F68 E68 T68 => ⟨_, rfl, ?_⟩))
            have e68 : rN hp68 67 0 = rN hp 67 0 := E68 0 (by omega)
            refine xild2 73 ⟨u284, _, rfl⟩ rfl rfl ?_
            refine xald 74 ⟨u284, _, rfl⟩ rfl rfl ?_
            refine xcall 77 [.ref 66] [.int _] hH68 ⟨u284, _, rfl⟩ rfl rfl rfl rfl rfl (hrec hp68 hH68 hP68 (by rw [← unc_eq hE]; exact unc_lt (by omega) (by omega) (by omega) ff.1 (f := fun u v => a.toInt + b.toInt + c.toInt - u - v) (by omega) fa T68) _ (fun z74 hp74 hH74 hP74 F74 E74 => ⟨_, rfl, ?_⟩))
            refine xaddw 78 ⟨u284, _, rfl⟩ rfl (fun z77 => ?_)
            refine xist2 80 ⟨u284, _, rfl⟩ rfl rfl ?_
            refine xald 81 ⟨u284, _, rfl⟩ rfl rfl ?_
            refine xild 82 ⟨u284, _, rfl⟩ rfl rfl ?_
            refine xild 83 ⟨u284, _, rfl⟩ rfl rfl ?_
            refine xild2 85 ⟨u284, _, rfl⟩ rfl rfl ?_
            refine xcall 88 [.ref 66, .int _, .int _, .int _] [] hH74 ⟨u284, _, rfl⟩ rfl rfl rfl rfl rfl (k_take hH74 hP74 (by omega) (by omega) (by omega) (by omega) (by
        rw [show tT hp74 a.toInt.toNat b.toInt.toNat = tT hp68 a.toInt.toNat b.toInt.toNat from E74 _ (by omega), T68 _ _ (by omega) (by omega), if_pos ⟨by omega, Or.inl rfl, Or.inr (Or.inl rfl)⟩]
        omega) (by omega) (fun hp85 hH85 hP85 F85 E85 T85 => ⟨_, rfl, ?_⟩))
            have e85 : rN hp85 67 0 = rN hp74 67 0 := E85 0 (by omega)
            have E99 : ∀ i, i < 229 → rN hp85 67 i = rN hp0 67 i := by
              intro i hi
              rcases Nat.lt_or_ge i 4 with z | z
              · rw [E85 i z, E74 i hi, E68 i z, hE i hi]
              · have e1 : i = 4 + 15 * ((i - 4) / 15) + (i - 4) % 15 := by omega
                have e2 := T85 ((i - 4) / 15) ((i - 4) % 15) (by omega) (by omega)
                have e3 := T68 ((i - 4) / 15) ((i - 4) % 15) (by omega) (by omega)
                have e4 : tT hp74 ((i - 4) / 15) ((i - 4) % 15) = tT hp68 ((i - 4) / 15) ((i - 4) % 15) := E74 _ (by omega)
                rw [← hE i hi]
                have g1 : rN hp85 67 i = tT hp85 ((i - 4) / 15) ((i - 4) % 15) := by unfold tT; rw [← e1]
                have g2 : rN hp 67 i = tT hp ((i - 4) / 15) ((i - 4) % 15) := by unfold tT; rw [← e1]
                rw [g1, g2, e2, e4, e3]
                split
                · next q => exact (fa _ _ q).symm
                · rfl
            refine xinc 91 (1) ⟨u284, _, rfl⟩ rfl rfl rfl (by decide) (by omega) (by omega) (fun z88 h88 => ?_)
            refine xgoto ⟨u284, _, rfl⟩ ?_
            exact ih (j - 1) (by omega) _ _ _ hH85 hP85 (hF.trans (F68.trans (F74.trans F85))) E99 (by omega) (by omega)
          · refine xgoto ⟨u284, _, rfl⟩ ?_
            refine xinc 91 (1) ⟨u284, _, rfl⟩ rfl rfl rfl (by decide) (by omega) (by omega) (fun z88 h88 => ?_)
            refine xgoto ⟨u284, _, rfl⟩ ?_
            exact ih (j - 1) (by omega) _ _ _ hH hP hF hE (by omega) (by omega)
theorem k_comp0 {d : Nat} {hp0 : amH} {R : xQ} (hH : bHk 84 bTT hp0) (hP : P0 hp0) (hrec : (∀ hp1, bHk 84 bTT hp1 → P0 hp1 → unc hp1 < unc hp0 → ∀ R1 : xQ, (∀ (z : Int32) hp2, bHk 84 bTT hp2 → P0 hp2 → bFr [(67, 999)] hp1 hp2 → (∀ i, i < 229 → rN hp2 67 i = rN hp1 67 i) → R1 (.inl (some (.int z))) hp2) → xK (d + 5) 284 [.ref 66] hp1 R1)) (hR : (∀ (z : Int32) hp1, bHk 84 bTT hp1 → P0 hp1 → bFr [(67, 999)] hp0 hp1 → (∀ i, i < 229 → rN hp1 67 i = rN hp0 67 i) → R (.inl (some (.int z))) hp1)) : xK (d + 6) 284 [.ref 66] hp0 R := by
  have q1 := hP.1.1
  have q2 := hP.1.2.1
  refine xin (M := am_m284) rfl rfl rfl ?_
  refine xald 1 ⟨u284, _, rfl⟩ rfl rfl ?_
  refine xcall 4 [.ref 66] [] hH ⟨u284, _, rfl⟩ rfl rfl rfl rfl rfl (k_tight hH hP (fun z1 h1 => ⟨_, rfl, ?_⟩))
  refine xist 5 ⟨u284, _, rfl⟩ rfl rfl ?_
  refine xild 6 ⟨u284, _, rfl⟩ rfl rfl ?_
  refine xcst 7 (-1) ⟨u284, _, rfl⟩ rfl (by decide) (fun z6 h6 => ?_)
  refine xcmp_ne 10 ⟨u284, _, rfl⟩ rfl (fun c7 => ?_) (fun c7 => ?_)
  · obtain ⟨x, y, hxy, hy, hz⟩ : ∃ x y : Nat, x < y ∧ (y : Int) < rN hp0 67 0 ∧ z1.toInt = 16 * (x : Int) + y := by
      rcases h1 with z | z
      · omega
      · exact z
    refine xild 13 ⟨u284, _, rfl⟩ rfl rfl ?_
    refine xbip 15 (16) ⟨u284, _, rfl⟩ rfl (by decide) (fun z13 h13 => ?_)
    refine xdiv 16 (Int32.toInt z1 / 16) ⟨u284, _, rfl⟩ rfl (by omega) (by omega) (by rw [h13]) (fun z15 h15 => ?_)
    refine xist 17 ⟨u284, _, rfl⟩ rfl rfl ?_
    refine xild 18 ⟨u284, _, rfl⟩ rfl rfl ?_
    refine xbip 20 (16) ⟨u284, _, rfl⟩ rfl (by decide) (fun z18 h18 => ?_)
    refine xrem 21 (Int32.toInt z1 % 16) ⟨u284, _, rfl⟩ rfl (by omega) (by omega) (by rw [h18]) (fun z20 h20 => ?_)
    refine xist 22 ⟨u284, _, rfl⟩ rfl rfl ?_
    refine xcst 23 (0) ⟨u284, _, rfl⟩ rfl (by decide) (fun z22 h22 => ?_)
    refine xist2 25 ⟨u284, _, rfl⟩ rfl rfl ?_
    refine xcst 26 (0) ⟨u284, _, rfl⟩ rfl (by decide) (fun z25 h25 => ?_)
    refine xist2 28 ⟨u284, _, rfl⟩ rfl rfl ?_
    exact l284 (by omega) (by omega) (by omega) hrec hR 15 _ _ hp0 hH hP (bFr.refl _ _) (fun i _ => rfl) (by omega) (by omega)
  · refine xcst 11 (1) ⟨u284, _, rfl⟩ rfl (by decide) (fun z10 h10 => ?_)
    exact xret ⟨u284, _, rfl⟩ rfl (hR _ hp0 hH hP (bFr.refl _ _) (fun i _ => rfl))
theorem k_comp : ∀ (D : Nat) {hp0 : amH} {R : xQ}, bHk 84 bTT hp0 → P0 hp0 → unc hp0 ≤ D → (∀ (z : Int32) hp1, bHk 84 bTT hp1 → P0 hp1 → bFr [(67, 999)] hp0 hp1 → (∀ i, i < 229 → rN hp1 67 i = rN hp0 67 i) → R (.inl (some (.int z))) hp1) → xK (D + 6) 284 [.ref 66] hp0 R
  | 0, hp0, R, hH, hP, hu, hR => k_comp0 hH hP (fun hp1 _ _ h => by omega) hR
  | D + 1, hp0, R, hH, hP, hu, hR => k_comp0 (d := D + 1) hH hP (fun hp1 h1 h2 h3 R1 h4 => k_comp D h1 h2 (by omega) h4) hR
theorem k_unm {d : Nat} {hp : amH} {R : xQ} (hH : bHk 84 bTT hp) (hP : P0 hp) (hR : ∀ (z : Int32) hp1, bHk 84 bTT hp1 → P0 hp1 → bFr [(66, 12), (72, 999), (73, 999), (74, 999), (75, 999)] hp hp1 → R (.inl (some (.int z))) hp1) : xK (d + 3) 215 [.ref 66] hp R :=
  xsem1 (bQ6_s bf_9 (List.mem_of_getElem? (i := 124) rfl)) (Nat.le_add_left 3 d) hH hP ⟨a66, trivial⟩ (noF hp) rfl rfl (fun z hp1 h1 h2 h3 _ _ => hR z hp1 h1 h2 h3)
end
/-! ##### 17.n.train ##### -/
section
/-! ===== ways by hand: trains: codes, next ===== -/
theorem u346 : bUp 0 am_m346.1 = true := by decide +kernel
theorem u347 : bUp 0 am_m347.1 = true := by decide +kernel
theorem k_max {d : Nat} {hp : amH} {R : xQ} {x y : Int32} (hR : ∀ z : Int32, z.toInt = max x.toInt y.toInt → R (.inl (some (.int z))) hp) : xK d 346 [.int x, .int y] hp R := by
  refine xin (M := am_m346) rfl rfl rfl ?_
  refine xild 1 ⟨u346, _, rfl⟩ rfl rfl ?_
  refine xild 2 ⟨u346, _, rfl⟩ rfl rfl ?_
  refine xcmp_lt 5 ⟨u346, _, rfl⟩ rfl (fun c2 => ?_) (fun c2 => ?_)
  · refine xild 10 ⟨u346, _, rfl⟩ rfl rfl ?_
    exact xret ⟨u346, _, rfl⟩ rfl (hR _ (by omega))
  · refine xild 6 ⟨u346, _, rfl⟩ rfl rfl ?_
    refine xgoto ⟨u346, _, rfl⟩ ?_
    exact xret ⟨u346, _, rfl⟩ rfl (hR _ (by omega))
theorem k_min {d : Nat} {hp : amH} {R : xQ} {x y : Int32} (hR : ∀ z : Int32, z.toInt = min x.toInt y.toInt → R (.inl (some (.int z))) hp) : xK d 347 [.int x, .int y] hp R := by
  refine xin (M := am_m347) rfl rfl rfl ?_
  refine xild 1 ⟨u347, _, rfl⟩ rfl rfl ?_
  refine xild 2 ⟨u347, _, rfl⟩ rfl rfl ?_
  refine xcmp_gt 5 ⟨u347, _, rfl⟩ rfl (fun c2 => ?_) (fun c2 => ?_)
  · refine xild 10 ⟨u347, _, rfl⟩ rfl rfl ?_
    exact xret ⟨u347, _, rfl⟩ rfl (hR _ (by omega))
  · refine xild 6 ⟨u347, _, rfl⟩ rfl rfl ?_
    refine xgoto ⟨u347, _, rfl⟩ ?_
    exact xret ⟨u347, _, rfl⟩ rfl (hR _ (by omega))
def cdO (a b c : Int) : Int := 256 * max a (max b c) + 16 * (a + b + c - max a (max b c) - min a (min b c)) + min a (min b c)
theorem u309 : bUp 0 am_m309.1 = true := by decide +kernel
theorem u310 : bUp 0 am_m310.1 = true := by decide +kernel
theorem u311 : bUp 0 am_m311.1 = true := by decide +kernel
theorem u312 : bUp 0 am_m312.1 = true := by decide +kernel
theorem u313 : bUp 0 am_m313.1 = true := by decide +kernel
theorem u314 : bUp 0 am_m314.1 = true := by decide +kernel
theorem u315 : bUp 0 am_m315.1 = true := by decide +kernel
theorem u316 : bUp 0 am_m316.1 = true := by decide +kernel
theorem u317 : bUp 0 am_m317.1 = true := by decide +kernel
theorem u318 : bUp 0 am_m318.1 = true := by decide +kernel
theorem u319 : bUp 0 am_m319.1 = true := by decide +kernel
theorem u320 : bUp 0 am_m320.1 = true := by decide +kernel
theorem u262 : bUp 0 am_m262.1 = true := by decide +kernel
theorem u214 : bUp 0 am_m214.1 = true := by decide +kernel
theorem u215 : bUp 0 am_m215.1 = true := by decide +kernel
theorem k_code {d : Nat} {hp : amH} {R : xQ} {a b c : Int32} (hH : bHk 84 bTT hp) (a1 : 0 ≤ a.toInt) (a2 : a.toInt < 15) (b1 : 0 ≤ b.toInt) (b2 : b.toInt < 15) (c1 : 0 ≤ c.toInt) (c2 : c.toInt < 15) (hR : ∀ z : Int32, z.toInt = cdO a.toInt b.toInt c.toInt → R (.inl (some (.int z))) hp) : xK (d + 1) 310 [.int a, .int b, .int c] hp R := by
  refine xin (M := am_m310) rfl rfl rfl ?_
  refine xild 1 ⟨u310, _, rfl⟩ rfl rfl ?_
  refine xild 2 ⟨u310, _, rfl⟩ rfl rfl ?_
  refine xild 3 ⟨u310, _, rfl⟩ rfl rfl ?_
  refine xcallS 6 [.int _, .int _] [.int _] hH ⟨u310, _, rfl⟩ rfl rfl rfl rfl rfl (k_max (fun z3 h3 => ⟨_, rfl, ?_⟩))
  refine xcallS 9 [.int _, .int _] [] hH ⟨u310, _, rfl⟩ rfl rfl rfl rfl rfl (k_max (fun z6 h6 => ⟨_, rfl, ?_⟩))
  refine xist 10 ⟨u310, _, rfl⟩ rfl rfl ?_
  refine xild 11 ⟨u310, _, rfl⟩ rfl rfl ?_
  refine xild 12 ⟨u310, _, rfl⟩ rfl rfl ?_
  refine xild 13 ⟨u310, _, rfl⟩ rfl rfl ?_
  refine xcallS 16 [.int _, .int _] [.int _] hH ⟨u310, _, rfl⟩ rfl rfl rfl rfl rfl (k_min (fun z13 h13 => ⟨_, rfl, ?_⟩))
  refine xcallS 19 [.int _, .int _] [] hH ⟨u310, _, rfl⟩ rfl rfl rfl rfl rfl (k_min (fun z16 h16 => ⟨_, rfl, ?_⟩))
  refine xist2 21 ⟨u310, _, rfl⟩ rfl rfl ?_
  refine xsip 24 (256) ⟨u310, _, rfl⟩ rfl (by decide) (fun z21 h21 => ?_)
  refine xild 25 ⟨u310, _, rfl⟩ rfl rfl ?_
  refine xmul 26 (256 * Int32.toInt z6) ⟨u310, _, rfl⟩ rfl (by rw [h21]) (by omega) (by omega) (fun z25 h25 => ?_)
  refine xbip 28 (16) ⟨u310, _, rfl⟩ rfl (by decide) (fun z26 h26 => ?_)
  refine xild 29 ⟨u310, _, rfl⟩ rfl rfl ?_
  refine xild 30 ⟨u310, _, rfl⟩ rfl rfl ?_
  refine xadd 31 _ ⟨u310, _, rfl⟩ rfl rfl (by omega) (by omega) (fun z30 h30 => ?_)
  refine xild 32 ⟨u310, _, rfl⟩ rfl rfl ?_
  refine xadd 33 _ ⟨u310, _, rfl⟩ rfl rfl (by omega) (by omega) (fun z32 h32 => ?_)
  refine xild 34 ⟨u310, _, rfl⟩ rfl rfl ?_
  refine xsub 35 _ ⟨u310, _, rfl⟩ rfl rfl (by omega) (by omega) (fun z34 h34 => ?_)
  refine xild2 37 ⟨u310, _, rfl⟩ rfl rfl ?_
  refine xsub 38 _ ⟨u310, _, rfl⟩ rfl rfl (by omega) (by omega) (fun z37 h37 => ?_)
  refine xmul 39 (16 * Int32.toInt z37) ⟨u310, _, rfl⟩ rfl (by rw [h26]) (by omega) (by omega) (fun z38 h38 => ?_)
  refine xadd 40 _ ⟨u310, _, rfl⟩ rfl rfl (by omega) (by omega) (fun z39 h39 => ?_)
  refine xild2 42 ⟨u310, _, rfl⟩ rfl rfl ?_
  refine xadd 43 _ ⟨u310, _, rfl⟩ rfl rfl (by omega) (by omega) (fun z42 h42 => ?_)
  exact xret ⟨u310, _, rfl⟩ rfl (hR _ (by unfold cdO; rw [← h3, ← h13, ← h6, ← h16]; omega))
def Cd (p c : Int) : Prop := ∃ x y z : Nat, z < y ∧ y < x ∧ (x : Int) < p ∧ c = 256 * (x : Int) + 16 * y + z
theorem cdO_Cd {p a b c : Int} (a0 : 0 ≤ a) (b0 : 0 ≤ b) (c0 : 0 ≤ c) (ap : a < p) (bp : b < p) (cp : c < p) (hab : ¬ a = b) (hbc : ¬ b = c) (hac : ¬ a = c) : Cd p (cdO a b c) := by
  unfold cdO
  exact ⟨(max a (max b c)).toNat, (a + b + c - max a (max b c) - min a (min b c)).toNat, (min a (min b c)).toNat, by omega, by omega, by omega, by omega⟩
/-- every pair is covered -/
def Wh (hp : amH) : Prop := ∀ u v : Nat, ¬ u = v → (u : Int) < rN hp 67 0 → (v : Int) < rN hp 67 0 → 0 ≤ tT hp u v
def nx (hp : amH) (c : Int) : Int := if tT hp (c / 256).toNat (c / 16 % 16).toNat = c % 16 then c else cdO (tT hp (c / 16 % 16).toNat (c % 16).toNat) (tT hp (c / 256).toNat (c % 16).toNat) (tT hp (c / 256).toNat (c / 16 % 16).toNat)
theorem Wh_t {hp : amH} (hV : Vf (rN hp 67)) (hW : Wh hp) {u v : Nat} (h : ¬ u = v) (hu : (u : Int) < rN hp 67 0) (hv : (v : Int) < rN hp 67 0) : ∃ w : Nat, (w : Int) < rN hp 67 0 ∧ tT hp u v = (w : Int) ∧ tT hp v u = (w : Int) ∧ tT hp u w = (v : Int) ∧ tT hp v w = (u : Int) := by
  have h15 := hV.2.1
  have h0 := hW u v h hu hv
  rcases Vf_m hV (a := u) (b := v) (by omega) (by omega) with g | ⟨w, hw, g⟩
  · omega
  · obtain ⟨t1, t2, t3, t4, t5, t6, t7, t8, t9, t10, t11⟩ := Vf_t hV (by omega) (by omega) g
    exact ⟨w, t3, g, t7, t8, t9⟩
theorem nx_Cd {hp : amH} (hV : Vf (rN hp 67)) (hW : Wh hp) {c : Int} (hc : Cd (rN hp 67 0) c) : Cd (rN hp 67 0) (nx hp c) := by
  obtain ⟨x, y, z, h1, h2, h3, rfl⟩ := hc
  have h15 := hV.2.1
  unfold nx
  rw [show ((256 * (x : Int) + 16 * y + z) / 256).toNat = x by omega, show ((256 * (x : Int) + 16 * y + z) / 16 % 16).toNat = y by omega, show (256 * (x : Int) + 16 * y + z) % 16 = z by omega, show ((z : Nat) : Int).toNat = z by omega]
  split
  · exact ⟨x, y, z, h1, h2, h3, rfl⟩
  · obtain ⟨a, a1, a2, a3, a4, a5⟩ := Wh_t hV hW (u := y) (v := z) (by omega) (by omega) (by omega)
    obtain ⟨b, b1, b2, b3, b4, b5⟩ := Wh_t hV hW (u := x) (v := z) (by omega) (by omega) (by omega)
    obtain ⟨e, e1, e2, e3, e4, e5⟩ := Wh_t hV hW (u := x) (v := y) (by omega) (by omega) (by omega)
    rw [a2, b2, e2]
    refine cdO_Cd (by omega) (by omega) (by omega) a1 b1 e1 (fun q => ?_) (fun q => ?_) (fun q => ?_)
    · have q : a = b := by omega
      subst q
      omega
    · have q : b = e := by omega
      subst q
      omega
    · have q : a = e := by omega
      subst q
      omega
theorem k_next {d : Nat} {hp : amH} {R : xQ} {c : Int32} (hH : bHk 84 bTT hp) (hP : P0 hp) (hW : Wh hp) (hc : Cd (rN hp 67 0) c.toInt) (hR : ∀ z : Int32, z.toInt = nx hp c.toInt → R (.inl (some (.int z))) hp) : xK (d + 2) 311 [.ref 66, .int c] hp R := by
  refine xin (M := am_m311) rfl rfl rfl ?_
  have q2 := hP.1.2.1
  have hc2 := hc
  obtain ⟨x, y, z, z1, z2, z3, hc⟩ := hc
  refine xild 1 ⟨u311, _, rfl⟩ rfl rfl ?_
  refine xsip 4 (256) ⟨u311, _, rfl⟩ rfl (by decide) (fun z1 h1 => ?_)
  refine xdiv 5 (Int32.toInt c / 256) ⟨u311, _, rfl⟩ rfl (by omega) (by omega) (by rw [h1]) (fun z4 h4 => ?_)
  refine xist 6 ⟨u311, _, rfl⟩ rfl rfl ?_
  refine xild 7 ⟨u311, _, rfl⟩ rfl rfl ?_
  refine xbip 9 (16) ⟨u311, _, rfl⟩ rfl (by decide) (fun z7 h7 => ?_)
  refine xdiv 10 (Int32.toInt c / 16) ⟨u311, _, rfl⟩ rfl (by omega) (by omega) (by rw [h7]) (fun z9 h9 => ?_)
  refine xbip 12 (16) ⟨u311, _, rfl⟩ rfl (by decide) (fun z10 h10 => ?_)
  refine xrem 13 (Int32.toInt z9 % 16) ⟨u311, _, rfl⟩ rfl (by omega) (by omega) (by rw [h10]) (fun z12 h12 => ?_)
  refine xist 14 ⟨u311, _, rfl⟩ rfl rfl ?_
  refine xild 15 ⟨u311, _, rfl⟩ rfl rfl ?_
  refine xbip 17 (16) ⟨u311, _, rfl⟩ rfl (by decide) (fun z15 h15 => ?_)
  refine xrem 18 (Int32.toInt c % 16) ⟨u311, _, rfl⟩ rfl (by omega) (by omega) (by rw [h15]) (fun z17 h17 => ?_)
  refine xist2 20 ⟨u311, _, rfl⟩ rfl rfl ?_
  have ex : z4.toInt = (x : Int) := by omega
  have ey : z12.toInt = (y : Int) := by omega
  have ez : z17.toInt = (z : Int) := by omega
  have nxe : nx hp c.toInt = if tT hp x y = z then c.toInt else cdO (tT hp y z) (tT hp x z) (tT hp x y) := by
    unfold nx
    rw [show (c.toInt / 256).toNat = x by omega, show (c.toInt / 16 % 16).toNat = y by omega, show c.toInt % 16 = z by omega, show ((z : Nat) : Int).toNat = z by omega]
  refine xald 21 ⟨u311, _, rfl⟩ rfl rfl ?_
  refine xild 22 ⟨u311, _, rfl⟩ rfl rfl ?_
  refine xild 23 ⟨u311, _, rfl⟩ rfl rfl ?_
  refine xcall 26 [.ref 66, .int _, .int _] [] hH ⟨u311, _, rfl⟩ rfl rfl rfl rfl rfl (k_third hH (by omega) (by omega) (by omega) (by omega) (fun z23 h23 => ⟨_, rfl, ?_⟩))
  rw [show z4.toInt.toNat = x by omega, show z12.toInt.toNat = y by omega] at h23
  refine xild2 28 ⟨u311, _, rfl⟩ rfl rfl ?_
  refine xcmp_ne 31 ⟨u311, _, rfl⟩ rfl (fun c28 => ?_) (fun c28 => ?_)
  · refine xald 34 ⟨u311, _, rfl⟩ rfl rfl ?_
    refine xild 35 ⟨u311, _, rfl⟩ rfl rfl ?_
    refine xild2 37 ⟨u311, _, rfl⟩ rfl rfl ?_
    refine xcall 40 [.ref 66, .int _, .int _] [] hH ⟨u311, _, rfl⟩ rfl rfl rfl rfl rfl (k_third hH (by omega) (by omega) (by omega) (by omega) (fun z37 h37 => ⟨_, rfl, ?_⟩))
    rw [show z12.toInt.toNat = y by omega, show z17.toInt.toNat = z by omega] at h37
    obtain ⟨w1, a1, a2, -⟩ := Wh_t hP.1 hW (u := y) (v := z) (by omega) (by omega) (by omega)
    refine xald 41 ⟨u311, _, rfl⟩ rfl rfl ?_
    refine xild 42 ⟨u311, _, rfl⟩ rfl rfl ?_
    refine xild2 44 ⟨u311, _, rfl⟩ rfl rfl ?_
    refine xcall 47 [.ref 66, .int _, .int _] [.int _] hH ⟨u311, _, rfl⟩ rfl rfl rfl rfl rfl (k_third hH (by omega) (by omega) (by omega) (by omega) (fun z44 h44 => ⟨_, rfl, ?_⟩))
    rw [show z4.toInt.toNat = x by omega, show z17.toInt.toNat = z by omega] at h44
    obtain ⟨w2, b1, b2, -⟩ := Wh_t hP.1 hW (u := x) (v := z) (by omega) (by omega) (by omega)
    refine xald 48 ⟨u311, _, rfl⟩ rfl rfl ?_
    refine xild 49 ⟨u311, _, rfl⟩ rfl rfl ?_
    refine xild 50 ⟨u311, _, rfl⟩ rfl rfl ?_
    refine xcall 53 [.ref 66, .int _, .int _] [.int _, .int _] hH ⟨u311, _, rfl⟩ rfl rfl rfl rfl rfl (k_third hH (by omega) (by omega) (by omega) (by omega) (fun z50 h50 => ⟨_, rfl, ?_⟩))
    rw [show z4.toInt.toNat = x by omega, show z12.toInt.toNat = y by omega] at h50
    obtain ⟨w3, d1, d2, -⟩ := Wh_t hP.1 hW (u := x) (v := y) (by omega) (by omega) (by omega)
    refine xcallS 56 [.int _, .int _, .int _] [] hH ⟨u311, _, rfl⟩ rfl rfl rfl rfl rfl (k_code hH (by omega) (by omega) (by omega) (by omega) (by omega) (by omega) (fun z53 h53 => ⟨_, rfl, ?_⟩))
    exact xret ⟨u311, _, rfl⟩ rfl (hR _ (by rw [nxe, if_neg (by omega), h53, h37, h44, h50]))
  · refine xild 32 ⟨u311, _, rfl⟩ rfl rfl ?_
    exact xret ⟨u311, _, rfl⟩ rfl (hR _ (by rw [nxe, if_pos (by omega)]))
end
