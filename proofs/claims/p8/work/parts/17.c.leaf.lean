/-! ===== ways by hand: the reference's leaves ===== -/
def tT (hp : amH) (u v : Nat) : Int := rN hp 67 (4 + 15 * u + v)
abbrev pr (x y z u v : Nat) : Prop := ¬ u = v ∧ (u = x ∨ u = y ∨ u = z) ∧ (v = x ∨ v = y ∨ v = z)
theorem k_points {d : Nat} {hp : amH} {R : xQ} (hH : bHk 84 bTT hp) (hR : ∀ z : Int32, z.toInt = rN hp 67 0 → R (.inl (some (.int z))) hp) : xK d 203 [.ref 66] hp R := by
  obtain ⟨w, hw, hr⟩ := r_mW hH
  exact ⟨am_m203, rfl, 6, .inl (some (.int (w.getD 0 0))), hp, m_points hw 0 d 0 0, hR _ (hr 0 (by omega)).symm⟩
theorem k_third {d : Nat} {hp : amH} {R : xQ} {a b : Int32} (hH : bHk 84 bTT hp) (a1 : 0 ≤ a.toInt) (a2 : a.toInt < 15) (b1 : 0 ≤ b.toInt) (b2 : b.toInt < 15) (hR : ∀ z : Int32, z.toInt = tT hp a.toInt.toNat b.toInt.toNat → R (.inl (some (.int z))) hp) : xK d 204 [.ref 66, .int a, .int b] hp R := by
  obtain ⟨w, hw, hr⟩ := r_mW hH
  exact ⟨am_m204, rfl, 12, .inl (some (.int (w.getD (4 + 15 * a.toInt.toNat + b.toInt.toNat) 0))), hp, m_thirdOf hw (x := a.toInt.toNat) (y := b.toInt.toNat) (by omega) (by omega) (by omega) (by omega) 0 d 0 0, hR _ (hr _ (by omega)).symm⟩
def cv (hp : amH) (u v : Nat) : Int := if tT hp u v = -1 then 0 else 1
theorem u208 : bUp 0 am_m208.1 = true := by decide +kernel
theorem u209 : bUp 0 am_m209.1 = true := by decide +kernel
theorem u210 : bUp 0 am_m210.1 = true := by decide +kernel
theorem k_cov {d : Nat} {hp : amH} {R : xQ} {a b : Int32} (hH : bHk 84 bTT hp) (a1 : 0 ≤ a.toInt) (a2 : a.toInt < 15) (b1 : 0 ≤ b.toInt) (b2 : b.toInt < 15) (hR : ∀ z : Int32, z.toInt = cv hp a.toInt.toNat b.toInt.toNat → R (.inl (some (.int z))) hp) : xK (d + 1) 208 [.ref 66, .int a, .int b] hp R := by
  refine xin (M := am_m208) rfl rfl rfl ?_
  unfold cv at hR
  refine xald 1 ⟨u208, _, rfl⟩ rfl rfl ?_
  refine xild 2 ⟨u208, _, rfl⟩ rfl rfl ?_
  refine xild 3 ⟨u208, _, rfl⟩ rfl rfl ?_
  refine xcall 6 [.ref 66, .int _, .int _] [] hH ⟨u208, _, rfl⟩ rfl rfl rfl rfl rfl (k_third hH (by omega) (by omega) (by omega) (by omega) (fun z3 h3 => ⟨_, rfl, ?_⟩))
  refine xcst 7 (-1) ⟨u208, _, rfl⟩ rfl (by decide) (fun z6 h6 => ?_)
  refine xcmp_ne 10 ⟨u208, _, rfl⟩ rfl (fun c7 => ?_) (fun c7 => ?_)
  · refine xcst 15 (1) ⟨u208, _, rfl⟩ rfl (by decide) (fun z14 h14 => ?_)
    exact xret ⟨u208, _, rfl⟩ rfl (hR _ (by rw [if_neg (by omega)]; exact h14))
  · refine xcst 11 (0) ⟨u208, _, rfl⟩ rfl (by decide) (fun z10 h10 => ?_)
    refine xgoto ⟨u208, _, rfl⟩ ?_
    exact xret ⟨u208, _, rfl⟩ rfl (hR _ (by rw [if_pos (by omega)]; exact h10))
theorem cv_01 (hp : amH) (u v : Nat) : 0 ≤ cv hp u v ∧ cv hp u v ≤ 1 := by
  unfold cv
  split <;> omega
theorem k_covin {d : Nat} {hp : amH} {R : xQ} {a b c : Int32} (hH : bHk 84 bTT hp) (a1 : 0 ≤ a.toInt) (a2 : a.toInt < 15) (b1 : 0 ≤ b.toInt) (b2 : b.toInt < 15) (c1 : 0 ≤ c.toInt) (c2 : c.toInt < 15) (hR : ∀ z : Int32, z.toInt = cv hp a.toInt.toNat b.toInt.toNat + cv hp b.toInt.toNat c.toInt.toNat + cv hp a.toInt.toNat c.toInt.toNat → R (.inl (some (.int z))) hp) : xK (d + 2) 209 [.ref 66, .int a, .int b, .int c] hp R := by
  refine xin (M := am_m209) rfl rfl rfl ?_
  have g1 := cv_01 hp a.toInt.toNat b.toInt.toNat
  have g2 := cv_01 hp b.toInt.toNat c.toInt.toNat
  have g3 := cv_01 hp a.toInt.toNat c.toInt.toNat
  refine xald 1 ⟨u209, _, rfl⟩ rfl rfl ?_
  refine xild 2 ⟨u209, _, rfl⟩ rfl rfl ?_
  refine xild 3 ⟨u209, _, rfl⟩ rfl rfl ?_
  refine xcall 6 [.ref 66, .int _, .int _] [] hH ⟨u209, _, rfl⟩ rfl rfl rfl rfl rfl (k_cov hH a1 a2 b1 b2 (fun z3 h3 => ⟨_, rfl, ?_⟩))
  refine xald 7 ⟨u209, _, rfl⟩ rfl rfl ?_
  refine xild 8 ⟨u209, _, rfl⟩ rfl rfl ?_
  refine xild 9 ⟨u209, _, rfl⟩ rfl rfl ?_
  refine xcall 12 [.ref 66, .int _, .int _] [.int _] hH ⟨u209, _, rfl⟩ rfl rfl rfl rfl rfl (k_cov hH b1 b2 c1 c2 (fun z9 h9 => ⟨_, rfl, ?_⟩))
  refine xadd 13 _ ⟨u209, _, rfl⟩ rfl rfl (by omega) (by omega) (fun z12 h12 => ?_)
  refine xald 14 ⟨u209, _, rfl⟩ rfl rfl ?_
  refine xild 15 ⟨u209, _, rfl⟩ rfl rfl ?_
  refine xild 16 ⟨u209, _, rfl⟩ rfl rfl ?_
  refine xcall 19 [.ref 66, .int _, .int _] [.int _] hH ⟨u209, _, rfl⟩ rfl rfl rfl rfl rfl (k_cov hH a1 a2 c1 c2 (fun z16 h16 => ⟨_, rfl, ?_⟩))
  refine xadd 20 _ ⟨u209, _, rfl⟩ rfl rfl (by omega) (by omega) (fun z19 h19 => ?_)
  exact xret ⟨u209, _, rfl⟩ rfl (hR _ (by omega))
/-- none of the three pairs is covered -/
def fr3 (hp : amH) (x y z : Nat) : Prop := tT hp x y = -1 ∧ tT hp y z = -1 ∧ tT hp x z = -1
theorem k_free {d : Nat} {hp : amH} {R : xQ} {a b c : Int32} (hH : bHk 84 bTT hp) (a1 : 0 ≤ a.toInt) (a2 : a.toInt < 15) (b1 : 0 ≤ b.toInt) (b2 : b.toInt < 15) (c1 : 0 ≤ c.toInt) (c2 : c.toInt < 15) (hR : ∀ z : Int32, (z.toInt = 1 ∧ fr3 hp a.toInt.toNat b.toInt.toNat c.toInt.toNat) ∨ (z.toInt = 0 ∧ ¬ fr3 hp a.toInt.toNat b.toInt.toNat c.toInt.toNat) → R (.inl (some (.int z))) hp) : xK (d + 3) 210 [.ref 66, .int a, .int b, .int c] hp R := by
  refine xin (M := am_m210) rfl rfl rfl ?_
  refine xald 1 ⟨u210, _, rfl⟩ rfl rfl ?_
  refine xild 2 ⟨u210, _, rfl⟩ rfl rfl ?_
  refine xild 3 ⟨u210, _, rfl⟩ rfl rfl ?_
  refine xild 4 ⟨u210, _, rfl⟩ rfl rfl ?_
  refine xcall 7 [.ref 66, .int _, .int _, .int _] [] hH ⟨u210, _, rfl⟩ rfl rfl rfl rfl rfl (k_covin hH a1 a2 b1 b2 c1 c2 (fun z4 h4 => ⟨_, rfl, ?_⟩))
  have key : z4.toInt = 0 ↔ fr3 hp a.toInt.toNat b.toInt.toNat c.toInt.toNat := by
    rw [h4]
    unfold fr3 cv
    split <;> split <;> split <;> (constructor <;> intro z <;> omega)
  refine xif_ne 10 ⟨u210, _, rfl⟩ rfl (fun c7 => ?_) (fun c7 => ?_)
  · refine xcst 15 (0) ⟨u210, _, rfl⟩ rfl (by decide) (fun z14 h14 => ?_)
    exact xretB ⟨u210, _, rfl⟩ rfl (Or.inl h14) (hR _ (Or.inr ⟨h14, fun z => c7 (key.mpr z)⟩))
  · refine xcst 11 (1) ⟨u210, _, rfl⟩ rfl (by decide) (fun z10 h10 => ?_)
    refine xgoto ⟨u210, _, rfl⟩ ?_
    exact xretB ⟨u210, _, rfl⟩ rfl (Or.inr h10) (hR _ (Or.inl ⟨h10, key.mp c7⟩))
/-! rows that systems are -/
theorem lay_get {w : List Int32} {x y u v : Nat} {c : Int32} (hx : x < 15) (hy : y < 15) (hu : u < 15) (hv : v < 15) (hw : w.length = 229) : (lay w x y c).getD (4 + 15 * u + v) 0 = if (u = x ∧ v = y) ∨ (u = y ∧ v = x) then c else w.getD (4 + 15 * u + v) 0 := by
  unfold lay
  simp only [List.getD_eq_getElem?_getD]
  by_cases h1 : u = y ∧ v = x
  · rw [if_pos (Or.inr h1), h1.1, h1.2, List.getElem?_set_self (by rw [List.length_set]; omega)]
    rfl
  · rw [List.getElem?_set_ne (by omega)]
    by_cases h2 : u = x ∧ v = y
    · rw [if_pos (Or.inl h2), h2.1, h2.2, List.getElem?_set_self (by omega)]
      rfl
    · rw [List.getElem?_set_ne (by omega), if_neg (by omega)]
theorem lay_get4 {w : List Int32} {x y i : Nat} {c : Int32} (hi : i < 4) : (lay w x y c).getD i 0 = w.getD i 0 := by
  unfold lay
  simp only [List.getD_eq_getElem?_getD]
  rw [List.getElem?_set_ne (by omega), List.getElem?_set_ne (by omega)]
/-- a triple's pairs get their third points, or none -/
theorem k_raw {d k : Nat} {hp : amH} {R : xQ} {av : List Value} {w1 : List Int32} {N : amM} (hN : amGG k = some N) (hH : bHk 84 bTT hp) (hrun : amRun amGG none 50 (d + 1) N N.1 0 (lv_args 0 av) [] hp 0 0 = some (.inl none, hp.set 67 (32, w1.map Value.int), 0, 0)) (hl : w1.length = 229)
    (hR : ∀ hp1, bHk 84 bTT hp1 → bFr [(67, 999)] hp hp1 → (∀ i, i < 229 → rN hp1 67 i = (w1.getD i 0).toInt) → R (.inl none) hp1) : xK (d + 1) k av hp R := by
  obtain ⟨w, h1, -, -⟩ := r_row hH (q := 67) (by decide) rfl
  obtain ⟨g1, g2, g3⟩ := r_set hH (q := 67) (dst := w) rfl h1 hl
  exact ⟨N, hN, 50, .inl none, _, hrun, hR _ g1 g2 g3⟩
theorem k_puts {d : Nat} {hp : amH} {R : xQ} {a b c : Int32} {x y z : Nat} (hH : bHk 84 bTT hp) (ha : a.toInt = (x : Int)) (hb : b.toInt = (y : Int)) (hc : c.toInt = (z : Int)) (hx : x < 15) (hy : y < 15) (hz : z < 15) (hxy : ¬ x = y) (hyz : ¬ y = z) (hxz : ¬ x = z)
    (hR : ∀ hp1, bHk 84 bTT hp1 → bFr [(67, 999)] hp hp1 → (∀ i, i < 4 → rN hp1 67 i = rN hp 67 i) → (∀ u v, u < 15 → v < 15 → tT hp1 u v = if pr x y z u v then (x : Int) + y + z - u - v else tT hp u v) → R (.inl none) hp1) : xK (d + 1) 206 [.ref 66, .int a, .int b, .int c] hp R := by
  obtain ⟨w, hw, hr⟩ := r_mW hH
  have hwl := hw.2.2
  refine k_raw (w1 := lay (lay (lay w x y c) y z a) x z b) (N := am_m206) rfl hH (m_puts hw ha hb hc hx hy hz 0 d 0 0) (by rw [lay_len, lay_len, lay_len]; exact hwl) (fun hp1 H1 F1 E1 => hR hp1 H1 F1 (fun i hi => ?_) (fun u v hu hv => ?_))
  · rw [E1 i (by omega), hr i (by omega), lay_get4 hi, lay_get4 hi, lay_get4 hi]
  · unfold tT
    rw [E1 _ (by omega), hr _ (by omega), lay_get hx hz hu hv (by rw [lay_len, lay_len]; exact hwl), lay_get hy hz hu hv (by rw [lay_len]; exact hwl), lay_get hx hy hu hv hwl]
    by_cases e1 : (u = x ∧ v = z) ∨ (u = z ∧ v = x)
    · rw [if_pos e1, if_pos (by omega), hb]
      omega
    · rw [if_neg e1]
      by_cases e2 : (u = y ∧ v = z) ∨ (u = z ∧ v = y)
      · rw [if_pos e2, if_pos (by omega), ha]
        omega
      · rw [if_neg e2]
        by_cases e3 : (u = x ∧ v = y) ∨ (u = y ∧ v = x)
        · rw [if_pos e3, if_pos (by omega), hc]
          omega
        · rw [if_neg e3, if_neg (by omega)]
theorem k_takes {d : Nat} {hp : amH} {R : xQ} {a b c : Int32} {x y z : Nat} (hH : bHk 84 bTT hp) (ha : a.toInt = (x : Int)) (hb : b.toInt = (y : Int)) (hc : c.toInt = (z : Int)) (hx : x < 15) (hy : y < 15) (hz : z < 15) (hxy : ¬ x = y) (hyz : ¬ y = z) (hxz : ¬ x = z)
    (hR : ∀ hp1, bHk 84 bTT hp1 → bFr [(67, 999)] hp hp1 → (∀ i, i < 4 → rN hp1 67 i = rN hp 67 i) → (∀ u v, u < 15 → v < 15 → tT hp1 u v = if pr x y z u v then -1 else tT hp u v) → R (.inl none) hp1) : xK (d + 1) 207 [.ref 66, .int a, .int b, .int c] hp R := by
  obtain ⟨w, hw, hr⟩ := r_mW hH
  have hwl := hw.2.2
  refine k_raw (w1 := lay (lay (lay w x y (-1)) y z (-1)) x z (-1)) (N := am_m207) rfl hH (m_takes hw ha hb hc hx hy hz 0 d 0 0) (by rw [lay_len, lay_len, lay_len]; exact hwl) (fun hp1 H1 F1 E1 => hR hp1 H1 F1 (fun i hi => ?_) (fun u v hu hv => ?_))
  · rw [E1 i (by omega), hr i (by omega), lay_get4 hi, lay_get4 hi, lay_get4 hi]
  · unfold tT
    have m1 : (-1 : Int32).toInt = -1 := by decide
    rw [E1 _ (by omega), hr _ (by omega), lay_get hx hz hu hv (by rw [lay_len, lay_len]; exact hwl), lay_get hy hz hu hv (by rw [lay_len]; exact hwl), lay_get hx hy hu hv hwl]
    by_cases e1 : (u = x ∧ v = z) ∨ (u = z ∧ v = x)
    · rw [if_pos e1, if_pos (by omega), m1]
    · rw [if_neg e1]
      by_cases e2 : (u = y ∧ v = z) ∨ (u = z ∧ v = y)
      · rw [if_pos e2, if_pos (by omega), m1]
      · rw [if_neg e2]
        by_cases e3 : (u = x ∧ v = y) ∨ (u = y ∧ v = x)
        · rw [if_pos e3, if_pos (by omega), m1]
        · rw [if_neg e3, if_neg (by omega)]
/-- systems: what stands at a pair -/
theorem Vf_t {hp : amH} (h : Vf (rN hp 67)) {a b c : Nat} (ha : a < 15) (hb : b < 15) (e : tT hp a b = (c : Int)) : (a : Int) < rN hp 67 0 ∧ (b : Int) < rN hp 67 0 ∧ (c : Int) < rN hp 67 0 ∧ a ≠ b ∧ a ≠ c ∧ b ≠ c ∧ tT hp b a = (c : Int) ∧ tT hp a c = (b : Int) ∧ tT hp b c = (a : Int) ∧ tT hp c a = (b : Int) ∧ tT hp c b = (a : Int) := by
  obtain ⟨h1, h2, h3, h4, h5, h6, h7, h8, h9⟩ := Vf_at h ha hb e
  have hp15 := h.2.1
  obtain ⟨-, -, -, -, -, -, k7, -⟩ := Vf_at h (a := a) (b := c) (c := b) ha (by omega) h8
  obtain ⟨-, -, -, -, -, -, l7, -⟩ := Vf_at h (a := b) (b := c) (c := a) hb (by omega) h9
  exact ⟨h1, h2, h3, h4, h5, h6, h7, h8, h9, k7, l7⟩
theorem Vf_m {hp : amH} (h : Vf (rN hp 67)) {a b : Nat} (ha : a < 15) (hb : b < 15) : tT hp a b = -1 ∨ ∃ c : Nat, c < 15 ∧ tT hp a b = (c : Int) := by
  rcases h.2.2 a b ha hb with g | ⟨c, g1, -, -, g4, -⟩
  · exact Or.inl g
  · have := h.2.1
    exact Or.inr ⟨c, by omega, g1⟩
theorem Vf_sym {hp : amH} (h : Vf (rN hp 67)) {a b : Nat} (ha : a < 15) (hb : b < 15) : tT hp b a = tT hp a b := by
  rcases Vf_m h ha hb with g | ⟨c, -, g⟩
  · rcases Vf_m h hb ha with k | ⟨c, -, k⟩
    · rw [g, k]
    · rw [(Vf_t h hb ha k).2.2.2.2.2.2.1, k]
  · rw [(Vf_t h ha hb g).2.2.2.2.2.2.1, g]
theorem P0_67 {hp hp1 : amH} (hF : bFr [(67, 999)] hp hp1) (hP : P0 hp) (hV : Vf (rN hp1 67)) : P0 hp1 := by
  have e : ∀ c i, ¬ c = 67 → rN hp1 c i = rN hp c i := fun c i hc => r_fr hF (by
    simp only [bIn]
    cases hb : Nat.beq 67 c
    · rfl
    · exact absurd (Nat.eq_of_beq_eq_true hb).symm hc)
  have e66 : ∀ i, rN hp1 66 i = rN hp 66 i := fun i => e 66 i (by decide)
  have e70 : ∀ i, rN hp1 70 i = rN hp 70 i := fun i => e 70 i (by decide)
  have e71 : ∀ i, rN hp1 71 i = rN hp 71 i := fun i => e 71 i (by decide)
  have e69 : ∀ i, rN hp1 69 i = rN hp 69 i := fun i => e 69 i (by decide)
  exact ⟨hV, fun z => Vf_eq (fun i _ => e70 i) (hP.2.1 (by rw [← e66]; exact z)), fun k hk hk2 => Vf_eq (fun i _ => e71 _) (hP.2.2.1 k (by rw [← e66]; exact hk) hk2), fun z => Vf_eq (fun i _ => e69 i) (hP.2.2.2 (by rw [← e69]; exact z))⟩
theorem V_put {hp hp1 : amH} {x y z : Nat} (hV : Vf (rN hp 67)) (hx : (x : Int) < rN hp 67 0) (hy : (y : Int) < rN hp 67 0) (hz : (z : Int) < rN hp 67 0) (hxy : ¬ x = y) (hyz : ¬ y = z) (hxz : ¬ x = z) (hf : fr3 hp x y z)
    (h4 : ∀ i, i < 4 → rN hp1 67 i = rN hp 67 i) (hT : ∀ u v, u < 15 → v < 15 → tT hp1 u v = if pr x y z u v then (x : Int) + y + z - u - v else tT hp u v) : Vf (rN hp1 67) := by
  have hp15 := hV.2.1
  have h0 := h4 0 (by omega)
  have f2 : ∀ u v, pr x y z u v → tT hp u v = -1 := by
    intro u v ⟨g1, g2, g3⟩
    obtain ⟨f1, f2, f3⟩ := hf
    have s1 := Vf_sym hV (a := x) (b := y) (by omega) (by omega)
    have s2 := Vf_sym hV (a := y) (b := z) (by omega) (by omega)
    have s3 := Vf_sym hV (a := x) (b := z) (by omega) (by omega)
    rcases g2 with rfl | rfl | rfl <;> rcases g3 with rfl | rfl | rfl <;> first | exact absurd rfl g1 | assumption | omega
  refine ⟨by rw [h0]; exact hV.1, by rw [h0]; exact hV.2.1, fun a b ha hb => ?_⟩
  have e := hT a b ha hb
  by_cases hp : pr x y z a b
  · right
    have hp2 := hp
    obtain ⟨g1, g2, g3⟩ := hp2
    rw [if_pos hp] at e
    refine ⟨x + y + z - a - b, ?_, by omega, by omega, by omega, g1, by omega, by omega, ?_, ?_⟩
    · have : tT hp1 a b = ((x + y + z - a - b : Nat) : Int) := by rw [e]; omega
      exact this
    · have e2 := hT b a hb ha
      rw [if_pos (by omega)] at e2
      have : tT hp1 b a = ((x + y + z - a - b : Nat) : Int) := by rw [e2]; omega
      exact this
    · have hc : x + y + z - a - b < 15 := by omega
      have e2 := hT a (x + y + z - a - b) ha hc
      rw [if_pos (by omega)] at e2
      have : tT hp1 a (x + y + z - a - b) = (b : Int) := by rw [e2]; omega
      exact this
  · rw [if_neg hp] at e
    rcases Vf_m hV ha hb with g | ⟨c, hc, g⟩
    · left
      have : tT hp1 a b = -1 := by rw [e, g]
      exact this
    · right
      obtain ⟨k1, k2, k3, k4, k5, k6, k7, k8, k9, k10, k11⟩ := Vf_t hV ha hb g
      have n1 : ¬ pr x y z b a := fun z1 => hp (by omega)
      have n2 : ¬ pr x y z a c := fun z1 => by have := f2 _ _ z1; omega
      refine ⟨c, ?_, by omega, by omega, by omega, k4, k5, k6, ?_, ?_⟩
      · have : tT hp1 a b = (c : Int) := by rw [e, g]
        exact this
      · have : tT hp1 b a = (c : Int) := by rw [hT b a hb ha, if_neg n1, k7]
        exact this
      · have : tT hp1 a c = (b : Int) := by rw [hT a c ha hc, if_neg n2, k8]
        exact this
theorem V_take {hp hp1 : amH} {x y z : Nat} (hV : Vf (rN hp 67)) (hx : x < 15) (hy : y < 15) (ht : tT hp x y = (z : Int))
    (h4 : ∀ i, i < 4 → rN hp1 67 i = rN hp 67 i) (hT : ∀ u v, u < 15 → v < 15 → tT hp1 u v = if pr x y z u v then -1 else tT hp u v) : Vf (rN hp1 67) := by
  have hp15 := hV.2.1
  have h0 := h4 0 (by omega)
  obtain ⟨t1, t2, t3, t4, t5, t6, t7, t8, t9, t10, t11⟩ := Vf_t hV hx hy ht
  have f2 : ∀ u v, pr x y z u v → tT hp u v = (x : Int) + y + z - u - v := by
    intro u v ⟨g1, g2, g3⟩
    rcases g2 with rfl | rfl | rfl <;> rcases g3 with rfl | rfl | rfl <;> first | exact absurd rfl g1 | omega
  refine ⟨by rw [h0]; exact hV.1, by rw [h0]; exact hV.2.1, fun a b ha hb => ?_⟩
  have e := hT a b ha hb
  by_cases hp : pr x y z a b
  · left
    rw [if_pos hp] at e
    exact e
  · rw [if_neg hp] at e
    rcases Vf_m hV ha hb with g | ⟨c, hc, g⟩
    · left
      have : tT hp1 a b = -1 := by rw [e, g]
      exact this
    · right
      obtain ⟨k1, k2, k3, k4, k5, k6, k7, k8, k9, k10, k11⟩ := Vf_t hV ha hb g
      have n1 : ¬ pr x y z b a := fun z1 => hp (by omega)
      have n2 : ¬ pr x y z a c := fun z1 => by have := f2 _ _ z1; omega
      refine ⟨c, ?_, by omega, by omega, by omega, k4, k5, k6, ?_, ?_⟩
      · have : tT hp1 a b = (c : Int) := by rw [e, g]
        exact this
      · have : tT hp1 b a = (c : Int) := by rw [hT b a hb ha, if_neg n1, k7]
        exact this
      · have : tT hp1 a c = (b : Int) := by rw [hT a c ha hc, if_neg n2, k8]
        exact this
/-- a free triple is put: the system stays one -/
theorem k_put {d : Nat} {hp : amH} {R : xQ} {a b c : Int32} (hH : bHk 84 bTT hp) (hP : P0 hp) (a1 : 0 ≤ a.toInt) (a2 : a.toInt < rN hp 67 0) (b1 : 0 ≤ b.toInt) (b2 : b.toInt < rN hp 67 0) (c1 : 0 ≤ c.toInt) (c2 : c.toInt < rN hp 67 0) (hab : ¬ a.toInt = b.toInt) (hbc : ¬ b.toInt = c.toInt) (hac : ¬ a.toInt = c.toInt) (hf : fr3 hp a.toInt.toNat b.toInt.toNat c.toInt.toNat)
    (hR : ∀ hp1, bHk 84 bTT hp1 → P0 hp1 → bFr [(67, 999)] hp hp1 → (∀ i, i < 4 → rN hp1 67 i = rN hp 67 i) → (∀ u v, u < 15 → v < 15 → tT hp1 u v = if pr a.toInt.toNat b.toInt.toNat c.toInt.toNat u v then a.toInt + b.toInt + c.toInt - u - v else tT hp u v) → R (.inl none) hp1) : xK (d + 1) 206 [.ref 66, .int a, .int b, .int c] hp R := by
  have hp15 := hP.1.2.1
  refine k_puts hH (x := a.toInt.toNat) (y := b.toInt.toNat) (z := c.toInt.toNat) (by omega) (by omega) (by omega) (by omega) (by omega) (by omega) (by omega) (by omega) (by omega) (fun hp1 H1 F1 E1 T1 => ?_)
  have hV := V_put hP.1 (by omega) (by omega) (by omega) (by omega) (by omega) (by omega) hf E1 T1
  refine hR hp1 H1 (P0_67 F1 hP hV) F1 E1 (fun u v hu hv => ?_)
  rw [T1 u v hu hv]
  split
  · omega
  · rfl
/-- a triple is taken: the system stays one -/
theorem k_take {d : Nat} {hp : amH} {R : xQ} {a b c : Int32} (hH : bHk 84 bTT hp) (hP : P0 hp) (a1 : 0 ≤ a.toInt) (a2 : a.toInt < 15) (b1 : 0 ≤ b.toInt) (b2 : b.toInt < 15) (ht : tT hp a.toInt.toNat b.toInt.toNat = c.toInt) (hc : 0 ≤ c.toInt)
    (hR : ∀ hp1, bHk 84 bTT hp1 → P0 hp1 → bFr [(67, 999)] hp hp1 → (∀ i, i < 4 → rN hp1 67 i = rN hp 67 i) → (∀ u v, u < 15 → v < 15 → tT hp1 u v = if pr a.toInt.toNat b.toInt.toNat c.toInt.toNat u v then -1 else tT hp u v) → R (.inl none) hp1) : xK (d + 1) 207 [.ref 66, .int a, .int b, .int c] hp R := by
  have hp15 := hP.1.2.1
  obtain ⟨t1, t2, t3, t4, t5, t6, -⟩ := Vf_t hP.1 (a := a.toInt.toNat) (b := b.toInt.toNat) (c := c.toInt.toNat) (by omega) (by omega) (by omega)
  refine k_takes hH (x := a.toInt.toNat) (y := b.toInt.toNat) (z := c.toInt.toNat) (by omega) (by omega) (by omega) (by omega) (by omega) (by omega) (by omega) (by omega) (by omega) (fun hp1 H1 F1 E1 T1 => ?_)
  have hV := V_take hP.1 (by omega) (by omega) (z := c.toInt.toNat) (by omega) E1 T1
  exact hR hp1 H1 (P0_67 F1 hP hV) F1 E1 T1
