/-! ===== train on both sides ===== -/
theorem sm_eq0 {f : Nat → Nat} : ∀ {n : Nat}, sm f n = 0 → ∀ i, i < n → f i = 0
  | n + 1, h, i, hi => by
    have e : sm f (n + 1) = sm f n + f n := rfl
    by_cases g : i = n
    · subst g; omega
    · exact sm_eq0 (n := n) (by omega) i (by omega)
/-- each pair of a complete system is covered -/
theorem cm_T {V : Nat} {T : sT} (hT : sOk V T) (h : opC V T = 0) {u v : Nat} (hu : u < V) (hv : v < V) (huv : ¬ u = v) : ∃ w : Nat, T u v = (w : Int) ∧ w < V ∧ ¬ w = u ∧ ¬ w = v := by
  have h15 := hT.2.1
  have a := op_len hT
  have b := (op_half hT).1
  have c := sq_even ⟨V, by omega⟩
  have c : V * (V - 1) % 2 = 0 := c
  have d : sm (opI V T) V = 0 := by omega
  have e := sm_eq0 d u hu
  have f := sm_eq0 (f := fun i => iv (i < V ∧ ¬ u = i ∧ T u i = -1)) (n := 15) e v (by omega)
  have g : ¬ T u v = -1 := fun z => by
    rw [iv_t (p := v < V ∧ ¬ u = v ∧ T u v = -1) ⟨hv, huv, z⟩] at f
    omega
  obtain ⟨w, ew, -, -, k3, -, k5, k6, -, -⟩ := sOk_at hT rfl g
  exact ⟨w, ew, k3, fun z => k5 z.symm, fun z => k6 z.symm⟩
theorem th_inj {V : Nat} {T : sT} (hT : sOk V T) {a b c p : Nat} (h1 : T a c = (p : Int)) (h2 : T b c = (p : Int)) : a = b := by
  have k1 : T c a = (p : Int) := by rw [sy_T hT]; exact h1
  have k2 : T c b = (p : Int) := by rw [sy_T hT]; exact h2
  obtain ⟨k, e, -, -, -, -, -, -, -, q1⟩ := sOk_at hT k1 (by omega)
  obtain ⟨l, e2, -, -, -, -, -, -, -, q2⟩ := sOk_at hT k2 (by omega)
  obtain rfl : k = l := by omega
  have := q1.symm.trans q2
  omega
/-- a set's code: its points from the greatest on -/
def cod (a b c : Nat) : Nat := 256 * max a (max b c) + 16 * (a + b + c - max a (max b c) - min a (min b c)) + min a (min b c)
theorem cod_1 {a b c : Nat} : cod a b c = cod b a c := by unfold cod; omega
theorem cod_2 {a b c : Nat} : cod a b c = cod a c b := by unfold cod; omega
theorem cod_s {x y z : Nat} (h1 : x < y) (h2 : y < z) : cod x y z = 256 * z + 16 * y + x := by unfold cod; omega
theorem m3_1 {a b c : Nat} : m3 a b c = m3 b a c := by unfold m3; rw [Nat.or_comm (2 ^ a) (2 ^ b)]
theorem m3_2 {a b c : Nat} : m3 a b c = m3 a c b := by unfold m3; rw [Nat.or_assoc, Nat.or_comm (2 ^ b), ← Nat.or_assoc]
/-- where a set leads to -/
def nxV (T : sT) (a b c : Nat) : Nat := cod (T b c).toNat (T a c).toNat (T a b).toNat
theorem nxV_1 {V : Nat} {T : sT} (hT : sOk V T) {a b c : Nat} : nxV T a b c = nxV T b a c := by unfold nxV; rw [cod_1, sy_T hT a b]
theorem nxV_2 {V : Nat} {T : sT} (hT : sOk V T) {a b c : Nat} : nxV T a b c = nxV T a c b := by unfold nxV; rw [cod_2, sy_T hT b c]
/-- a set with its points in order -/
theorem set_s {a b c : Nat} (h1 : ¬ a = b) (h2 : ¬ b = c) (h3 : ¬ a = c) : ∃ x y z : Nat, x < y ∧ y < z ∧ (∀ p, (p = x ∨ p = y ∨ p = z) ↔ (p = a ∨ p = b ∨ p = c)) ∧ m3 a b c = m3 x y z ∧ cod a b c = cod x y z ∧ ∀ {V : Nat} {T : sT}, sOk V T → nxV T a b c = nxV T x y z := by
  by_cases g1 : a < b <;> by_cases g2 : b < c <;> by_cases g3 : a < c
  · exact ⟨a, b, c, g1, g2, fun _ => Iff.rfl, rfl, rfl, fun _ => rfl⟩
  · omega
  · exact ⟨a, c, b, g3, by omega, fun _ => by simp only [or_assoc, or_left_comm, or_comm], m3_2, cod_2, fun h => nxV_2 h⟩
  · exact ⟨c, a, b, by omega, g1, fun _ => by simp only [or_assoc, or_left_comm, or_comm], m3_2.trans m3_1, cod_2.trans cod_1, fun h => (nxV_2 h).trans (nxV_1 h)⟩
  · exact ⟨b, a, c, by omega, g3, fun _ => by simp only [or_assoc, or_left_comm, or_comm], m3_1, cod_1, fun h => nxV_1 h⟩
  · exact ⟨b, c, a, g2, by omega, fun _ => by simp only [or_assoc, or_left_comm, or_comm], m3_1.trans m3_2, cod_1.trans cod_2, fun h => (nxV_1 h).trans (nxV_2 h)⟩
  · omega
  · exact ⟨c, b, a, by omega, by omega, fun _ => by simp only [or_assoc, or_left_comm, or_comm], (m3_1.trans m3_2).trans m3_1, (cod_1.trans cod_2).trans cod_1, fun h => ((nxV_1 h).trans (nxV_2 h)).trans (nxV_1 h)⟩
/-- the three points to which a set leads -/
theorem nx_pts {V : Nat} {T : sT} (hT : sOk V T) (h : opC V T = 0) {x y z : Nat} (hx : x < V) (hy : y < V) (hz : z < V) (hxy : ¬ x = y) (hyz : ¬ y = z) (hxz : ¬ x = z) : ∃ p q r : Nat, T y z = (p : Int) ∧ T x z = (q : Int) ∧ T x y = (r : Int) ∧ p < V ∧ q < V ∧ r < V ∧ ¬ p = q ∧ ¬ q = r ∧ ¬ p = r := by
  obtain ⟨p, ep, lp, -, -⟩ := cm_T hT h hy hz hyz
  obtain ⟨q, eq, lq, -, -⟩ := cm_T hT h hx hz hxz
  obtain ⟨r, er, lr, -, -⟩ := cm_T hT h hx hy hxy
  refine ⟨p, q, r, ep, eq, er, lp, lq, lr, fun g => ?_, fun g => ?_, fun g => ?_⟩
  · subst g; exact hxy (th_inj hT eq ep)
  · subst g
    rw [sy_T hT] at eq er
    exact hyz (th_inj hT er eq)
  · subst g
    rw [sy_T hT] at ep
    exact hxz (th_inj hT er ep)
def gTn (V : Nat) (T : sT) (a b c : Int) : Int := if gSet V a b c = 0 then (if opC V T = 0 then 0 else 3) else gSet V a b c
theorem gTn_0 {V : Nat} {T : sT} {a b c : Int} : gTn V T a b c = 0 ↔ (gSet V a b c = 0 ∧ opC V T = 0) := by
  unfold gTn
  by_cases g : gSet V a b c = 0
  · rw [if_pos g]
    by_cases k : opC V T = 0
    · rw [if_pos k]; exact ⟨fun _ => ⟨g, k⟩, fun _ => rfl⟩
    · rw [if_neg k]; exact ⟨fun w => absurd w (by decide), fun w => absurd w.2 k⟩
  · rw [if_neg g]; exact ⟨fun w => absurd w g, fun w => absurd w.1 g⟩
theorem gTn_g {V : Nat} {T : sT} {a b c : Int} (g : ¬ gSet V a b c = 0) : gTn V T a b c = gSet V a b c := if_neg g
theorem gTn_3 {V : Nat} {T : sT} {a b c : Int} (g : gSet V a b c = 0) (k : ¬ opC V T = 0) : gTn V T a b c = 3 := by unfold gTn; rw [if_pos g, if_neg k]
theorem k_182E {d V : Nat} {T : sT} {hp : amH} {R : xQ} (hH : bHk 84 bTT hp) (hB : bdOk hp 3 V T) (h0 : opC V T = 0 → R (.inl none) hp) (h1 : ¬ opC V T = 0 → R (.inr 2) hp) : xK (d + 3) 182 [.ref 0] hp R := by
  have u182 : bUp 0 am_m182.1 = true := by decide +kernel
  refine xin (M := am_m182) rfl rfl rfl ?_
  refine xald 1 ⟨u182, _, rfl⟩ rfl rfl ?_
  refine xgetD 4 (3) hH ⟨u182, _, rfl⟩ rfl (by decide) (by decide) rfl rfl (by decide) ?_
  refine xcallC 7 (o := 3) [] [] hH ⟨u182, _, rfl⟩ rfl rfl (by decide) rfl (by decide) rfl ⟨rfl, rfl, rfl, rfl⟩ rfl (k_23E (o := 3) (Or.inl rfl) hH hB (fun z4 h4 => ⟨_, rfl, ?_⟩))
  refine xif_eq 10 ⟨u182, _, rfl⟩ rfl (fun c7 => ?_) (fun c7 => ?_)
  · exact xretV ⟨u182, _, rfl⟩ rfl (h0 (by omega))
  · exact xthr ⟨u182, _, rfl⟩ (by decide) rfl (by decide) (h1 (by omega))
theorem k_183E {d V : Nat} {T : sT} {hp : amH} {R : xQ} {a b c : Int32} (hH : bHk 84 bTT hp) (hB : bdOk hp 3 V T) (h0 : gTn V T a.toInt b.toInt c.toInt = 0 → R (.inl none) hp) (h1 : gTn V T a.toInt b.toInt c.toInt = 1 → R (.inr 1) hp) (h2 : gTn V T a.toInt b.toInt c.toInt = 2 → R (.inr 0) hp) (h3 : gTn V T a.toInt b.toInt c.toInt = 3 → R (.inr 2) hp) : xK (d + 4) 183 [.ref 0, .int a, .int b, .int c] hp R := by
  have u183 : bUp 0 am_m183.1 = true := by decide +kernel
  have b0 : rN hp 3 0 = (V : Int) := hB.1
  refine xin (M := am_m183) rfl rfl rfl ?_
  refine xald 1 ⟨u183, _, rfl⟩ rfl rfl ?_
  refine xild 2 ⟨u183, _, rfl⟩ rfl rfl ?_
  refine xild 3 ⟨u183, _, rfl⟩ rfl rfl ?_
  refine xild 4 ⟨u183, _, rfl⟩ rfl rfl ?_
  refine xcallT 7 (o := 0) [.int _, .int _, .int _] [] hH ⟨u183, _, rfl⟩ rfl rfl (by decide) rfl (by decide) rfl ⟨rfl, rfl, rfl, rfl⟩ rfl (k_rq3 hH b0 (fun g4 => Or.inl ⟨_, rfl, ?_⟩) (fun g4 => Or.inr ⟨_, rfl, rfl, h1 (by rw [gTn_g (by omega)]; exact g4)⟩) (fun g4 => Or.inr ⟨_, rfl, rfl, h2 (by rw [gTn_g (by omega)]; exact g4)⟩))
  refine xald 8 ⟨u183, _, rfl⟩ rfl rfl ?_
  refine xcallT 11 (o := 0) [] [] hH ⟨u183, _, rfl⟩ rfl rfl (by decide) rfl (by decide) rfl ⟨rfl, rfl, rfl, rfl⟩ rfl (k_182E hH hB (fun k8 => Or.inl ⟨_, rfl, ?_⟩) (fun k8 => Or.inr ⟨_, rfl, rfl, h3 (gTn_3 g4 k8)⟩))
  exact xretV ⟨u183, _, rfl⟩ rfl (h0 (gTn_0.mpr ⟨g4, k8⟩))
/-- the class leads a set -/
theorem k_28E {d V x y z : Nat} {T : sT} {hp : amH} {R : xQ} {s : Int32} (hH : bHk 84 bTT hp) (hB : bdOk hp 3 V T) (hc : opC V T = 0) (hs : s.toInt = ((m3 x y z : Nat) : Int)) (h1 : x < y) (h2 : y < z) (h3 : z < V)
    (hR : ∀ r : Int32, r.toInt = ((m3 (T y z).toNat (T x z).toNat (T x y).toNat : Nat) : Int) → R (.inl (some (.int r))) hp) : xK (d + 2) 28 [.ref 3, .int s] hp R := by
  have u28 : bUp 0 am_m28.1 = true := by decide +kernel
  have hT := hB.2.1
  have h15 := hT.2.1
  have ml : m3 x y z < 32768 := m3_lt (by omega) (by omega) (by omega)
  obtain ⟨e0, e1, e2⟩ := mem3 h1 h2 (show z < 15 by omega)
  obtain ⟨p, q, r, ep, eq, er, lp, lq, lr, -, -, -⟩ := nx_pts hT hc (show x < V by omega) (show y < V by omega) h3 (by omega) (by omega) (by omega)
  rw [ep, eq, er] at hR
  refine xin (M := am_m28) rfl rfl rfl ?_
  refine xild 1 ⟨u28, _, rfl⟩ rfl rfl ?_
  refine xcst 2 (0) ⟨u28, _, rfl⟩ rfl (by decide) (fun z1 h1 => ?_)
  refine xcallS 5 [.int _, .int _] [] hH ⟨u28, _, rfl⟩ rfl rfl rfl rfl rfl (k_mem hH (i := 0) hs ml (by omega) (fun z2 h2 => ⟨_, rfl, ?_⟩))
  rw [e0] at h2
  refine xist 6 ⟨u28, _, rfl⟩ rfl rfl ?_
  refine xild 7 ⟨u28, _, rfl⟩ rfl rfl ?_
  refine xcst 8 (1) ⟨u28, _, rfl⟩ rfl (by decide) (fun z7 h7 => ?_)
  refine xcallS 11 [.int _, .int _] [] hH ⟨u28, _, rfl⟩ rfl rfl rfl rfl rfl (k_mem hH (i := 1) hs ml (by omega) (fun z8 h8 => ⟨_, rfl, ?_⟩))
  rw [e1] at h8
  refine xist 12 ⟨u28, _, rfl⟩ rfl rfl ?_
  refine xild 13 ⟨u28, _, rfl⟩ rfl rfl ?_
  refine xcst 14 (2) ⟨u28, _, rfl⟩ rfl (by decide) (fun z13 h13 => ?_)
  refine xcallS 17 [.int _, .int _] [] hH ⟨u28, _, rfl⟩ rfl rfl rfl rfl rfl (k_mem hH (i := 2) hs ml (by omega) (fun z14 h14 => ⟨_, rfl, ?_⟩))
  rw [e2] at h14
  refine xist2 19 ⟨u28, _, rfl⟩ rfl rfl ?_
  refine xald 20 ⟨u28, _, rfl⟩ rfl rfl ?_
  refine xild 21 ⟨u28, _, rfl⟩ rfl rfl ?_
  refine xild2 23 ⟨u28, _, rfl⟩ rfl rfl ?_
  refine xcallC 26 (o := 3) [.int _, .int _] [] hH ⟨u28, _, rfl⟩ rfl rfl (by decide) rfl (by decide) rfl ⟨rfl, rfl, rfl, rfl⟩ rfl (k_thd (o := 3) (Or.inl rfl) hH hB (fun z23 h23 => ⟨_, rfl, ?_⟩))
  rw [if_pos (by omega), show Int32.toInt z8 = ((y : Nat) : Int) by omega, show Int32.toInt z14 = ((z : Nat) : Int) by omega, Int.toNat_natCast, Int.toNat_natCast, ep] at h23
  refine xald 27 ⟨u28, _, rfl⟩ rfl rfl ?_
  refine xild 28 ⟨u28, _, rfl⟩ rfl rfl ?_
  refine xild2 30 ⟨u28, _, rfl⟩ rfl rfl ?_
  refine xcallC 33 (o := 3) [.int _, .int _] [.int _] hH ⟨u28, _, rfl⟩ rfl rfl (by decide) rfl (by decide) rfl ⟨rfl, rfl, rfl, rfl⟩ rfl (k_thd (o := 3) (Or.inl rfl) hH hB (fun z30 h30 => ⟨_, rfl, ?_⟩))
  rw [if_pos (by omega), show Int32.toInt z2 = ((x : Nat) : Int) by omega, show Int32.toInt z14 = ((z : Nat) : Int) by omega, Int.toNat_natCast, Int.toNat_natCast, eq] at h30
  refine xald 34 ⟨u28, _, rfl⟩ rfl rfl ?_
  refine xild 35 ⟨u28, _, rfl⟩ rfl rfl ?_
  refine xild 36 ⟨u28, _, rfl⟩ rfl rfl ?_
  refine xcallC 39 (o := 3) [.int _, .int _] [.int _, .int _] hH ⟨u28, _, rfl⟩ rfl rfl (by decide) rfl (by decide) rfl ⟨rfl, rfl, rfl, rfl⟩ rfl (k_thd (o := 3) (Or.inl rfl) hH hB (fun z36 h36 => ⟨_, rfl, ?_⟩))
  rw [if_pos (by omega), show Int32.toInt z2 = ((x : Nat) : Int) by omega, show Int32.toInt z8 = ((y : Nat) : Int) by omega, Int.toNat_natCast, Int.toNat_natCast, er] at h36
  refine xcallS 42 [.int _, .int _, .int _] [] hH ⟨u28, _, rfl⟩ rfl rfl rfl rfl rfl (k_three (x := p) (y := q) (z := r) h23 h30 h36 (by omega) (by omega) (by omega) (fun z39 h39 => ⟨_, rfl, ?_⟩))
  exact xret ⟨u28, _, rfl⟩ rfl (hR _ h39)
theorem dig_or : ∀ x y z : Fin 16, ((z.1 <<< 8) ||| (y.1 <<< 4)) ||| x.1 = 256 * z.1 + 16 * y.1 + x.1 := by decide +kernel
theorem k_73E {d a b c : Nat} {hp : amH} {R : xQ} {s : Int32} (hH : bHk 84 bTT hp) (hs : s.toInt = ((m3 a b c : Nat) : Int)) (ha : a < 15) (hb : b < 15) (hc : c < 15) (hab : ¬ a = b) (hbc : ¬ b = c) (hac : ¬ a = c)
    (hR : ∀ r : Int32, r.toInt = ((cod a b c : Nat) : Int) → R (.inl (some (.int r))) hp) : xK (d + 2) 73 [.int s] hp R := by
  have u73 : bUp 0 am_m73.1 = true := by decide +kernel
  obtain ⟨x, y, z, h1, h2, hp3, em, ec, -⟩ := set_s hab hbc hac
  have lz : z < 15 := by have := (hp3 z).mp (Or.inr (Or.inr rfl)); omega
  have ml : m3 x y z < 32768 := m3_lt (by omega) (by omega) lz
  obtain ⟨e0, e1, e2⟩ := mem3 h1 h2 lz
  rw [em] at hs
  rw [ec, cod_s h1 h2] at hR
  have dg : ((z <<< 8) ||| (y <<< 4)) ||| x = 256 * z + 16 * y + x := dig_or ⟨x, by omega⟩ ⟨y, by omega⟩ ⟨z, by omega⟩
  refine xin (M := am_m73) rfl rfl rfl ?_
  refine xild 1 ⟨u73, _, rfl⟩ rfl rfl ?_
  refine xcst 2 (2) ⟨u73, _, rfl⟩ rfl (by decide) (fun z1 h1 => ?_)
  refine xcallS 5 [.int _, .int _] [] hH ⟨u73, _, rfl⟩ rfl rfl rfl rfl rfl (k_mem hH (i := 2) hs ml (by omega) (fun z2 h2 => ⟨_, rfl, ?_⟩))
  rw [e2] at h2
  refine xbip 7 (8) ⟨u73, _, rfl⟩ rfl (by decide) (fun z5 h5 => ?_)
  refine xshl 8 ⟨u73, _, rfl⟩ rfl ?_
  refine xild 9 ⟨u73, _, rfl⟩ rfl rfl ?_
  refine xcst 10 (1) ⟨u73, _, rfl⟩ rfl (by decide) (fun z9 h9 => ?_)
  refine xcallS 13 [.int _, .int _] [.int _] hH ⟨u73, _, rfl⟩ rfl rfl rfl rfl rfl (k_mem hH (i := 1) hs ml (by omega) (fun z10 h10 => ⟨_, rfl, ?_⟩))
  rw [e1] at h10
  refine xcst 14 (4) ⟨u73, _, rfl⟩ rfl (by decide) (fun z13 h13 => ?_)
  refine xshl 15 ⟨u73, _, rfl⟩ rfl ?_
  refine xor_ 16 ⟨u73, _, rfl⟩ rfl ?_
  refine xild 17 ⟨u73, _, rfl⟩ rfl rfl ?_
  refine xcst 18 (0) ⟨u73, _, rfl⟩ rfl (by decide) (fun z17 h17 => ?_)
  refine xcallS 21 [.int _, .int _] [.int _] hH ⟨u73, _, rfl⟩ rfl rfl rfl rfl rfl (k_mem hH (i := 0) hs ml (by omega) (fun z18 h18 => ⟨_, rfl, ?_⟩))
  rw [e0] at h18
  refine xor_ 22 ⟨u73, _, rfl⟩ rfl ?_
  have w1 := i_shlB h2 (m := z) (k := 8) (b := z5) (by omega) (by omega) (by omega)
  have w2 := i_shlB h10 (m := y) (k := 4) (b := z13) (by omega) (by omega) (by omega)
  have w3 := i_orG w1.1 w2.1 w1.2 w2.2
  have w4 := i_orG w3.1 h18 w3.2 (by omega)
  rw [dg] at w4
  exact xret ⟨u73, _, rfl⟩ rfl (hR _ w4.1)
theorem u150 : bUp 0 am_m150.1 = true := by decide +kernel
theorem k_150E {d V n : Nat} {h : Nat → sR} {sv : Option sR} {T : sT} {ty : Nat → Int} {hp : amH} {R : xQ} {a b c : Int32} (hH : bHk 84 bTT hp) (hS : clS hp (V, T, ty) n h sv)
    (hT : ∀ E hp1, bHk 84 bTT hp1 → cF hp hp1 → clS hp1 (V, T, ty) n h sv → ¬ gTn V T a.toInt b.toInt c.toInt = 0 → ((gTn V T a.toInt b.toInt c.toInt = 1 ∧ E = 1) ∨ (gTn V T a.toInt b.toInt c.toInt = 2 ∧ E = 0) ∨ (gTn V T a.toInt b.toInt c.toInt = 3 ∧ E = 2)) → R (.inr E) hp1)
    (hR : ∀ (z : Int32) hp1, bHk 84 bTT hp1 → cF hp hp1 → gTn V T a.toInt b.toInt c.toInt = 0 → clS hp1 (V, T, ty) n h sv → z.toInt = ((nxV T a.toInt.toNat b.toInt.toNat c.toInt.toNat : Nat) : Int) → R (.inl (some (.int z))) hp1) : xK (d + 6) 150 [.ref 0, .int a, .int b, .int c] hp R := by
  have hB : bdOk hp 3 V T := hS.1
  have b0 : rN hp 3 0 = (V : Int) := hB.1
  have hL : lsN hp 3 T 225 := hS.2.1
  have b1 : rN hp 3 1 = (((trL T 225).length : Nat) : Int) := hL.1
  have hT0 : sOk V T := hB.2.1
  have h15 : V ≤ 15 := hT0.2.1
  have l35 : (trL T 225).length ≤ 35 := trL_35 hT0 225
  refine xin (M := am_m150) rfl rfl rfl ?_
  refine xald 1 ⟨u150, _, rfl⟩ rfl rfl ?_
  refine xild 2 ⟨u150, _, rfl⟩ rfl rfl ?_
  refine xild 3 ⟨u150, _, rfl⟩ rfl rfl ?_
  refine xild 4 ⟨u150, _, rfl⟩ rfl rfl ?_
  refine xcallT 7 (o := 0) [.int _, .int _, .int _] [] hH ⟨u150, _, rfl⟩ rfl rfl (by decide) rfl (by decide) rfl ⟨rfl, rfl, rfl, rfl⟩ rfl (k_183E hH hB (fun g4 => Or.inl ⟨_, rfl, ?_⟩) (fun g4 => Or.inr ⟨_, rfl, rfl, hT _ hp hH cF.refl hS (by omega) (Or.inl ⟨g4, rfl⟩)⟩) (fun g4 => Or.inr ⟨_, rfl, rfl, hT _ hp hH cF.refl hS (by omega) (Or.inr (Or.inl ⟨g4, rfl⟩))⟩) (fun g4 => Or.inr ⟨_, rfl, rfl, hT _ hp hH cF.refl hS (by omega) (Or.inr (Or.inr ⟨g4, rfl⟩))⟩))
  have k4 := gSet_0.mp (gTn_0.mp g4).1
  have c4 := (gTn_0.mp g4).2
  obtain ⟨x, y, z, s1, s2, s3, em, -, en⟩ := set_s (a := a.toInt.toNat) (b := b.toInt.toNat) (c := c.toInt.toNat) (by omega) (by omega) (by omega)
  have lz : z < V := by have := (s3 z).mp (Or.inr (Or.inr rfl)); omega
  obtain ⟨p, q, r, ep, eq, er, lp, lq, lr, npq, nqr, npr⟩ := nx_pts hT0 c4 (show x < V by omega) (show y < V by omega) lz (by omega) (by omega) (by omega)
  refine xald 8 ⟨u150, _, rfl⟩ rfl rfl ?_
  refine xgetD 11 (3) hH ⟨u150, _, rfl⟩ rfl (by decide) (by decide) rfl rfl (by decide) ?_
  refine xild 12 ⟨u150, _, rfl⟩ rfl rfl ?_
  refine xild 13 ⟨u150, _, rfl⟩ rfl rfl ?_
  refine xild 14 ⟨u150, _, rfl⟩ rfl rfl ?_
  refine xcallS 17 [.int _, .int _, .int _] [.ref 3] hH ⟨u150, _, rfl⟩ rfl rfl rfl rfl rfl (k_three (x := a.toInt.toNat) (y := b.toInt.toNat) (z := c.toInt.toNat) (by omega) (by omega) (by omega) (by omega) (by omega) (by omega) (fun z14 h14 => ⟨_, rfl, ?_⟩))
  rw [em] at h14
  refine xcallC 20 (o := 3) [.int _] [] hH ⟨u150, _, rfl⟩ rfl rfl (by decide) rfl (by decide) rfl ⟨rfl, rfl, rfl, rfl⟩ rfl (k_28E hH hB c4 h14 s1 s2 lz (fun z17 h17 => ⟨_, rfl, ?_⟩))
  rw [ep, eq, er] at h17
  refine xcallS 23 [.int _] [] hH ⟨u150, _, rfl⟩ rfl rfl rfl rfl rfl (k_73E hH h17 (by omega) (by omega) (by omega) npq nqr npr (fun z20 h20 => ⟨_, rfl, ?_⟩))
  exact xret ⟨u150, _, rfl⟩ rfl (hR _ _ hH cF.refl g4 hS (by rw [h20, en hT0]; unfold nxV; rw [ep, eq, er]; rfl))
theorem k_310E {d x y z : Nat} {hp : amH} {R : xQ} {a b c : Int32} (hH : bHk 84 bTT hp) (ha : a.toInt = (x : Int)) (hb : b.toInt = (y : Int)) (hc : c.toInt = (z : Int)) (hx : x < 15) (hy : y < 15) (hz : z < 15)
    (hR : ∀ r : Int32, r.toInt = ((cod x y z : Nat) : Int) → R (.inl (some (.int r))) hp) : xK (d + 1) 310 [.int a, .int b, .int c] hp R := by
  have u310 : bUp 0 am_m310.1 = true := by decide +kernel
  refine xin (M := am_m310) rfl rfl rfl ?_
  refine xild 1 ⟨u310, _, rfl⟩ rfl rfl ?_
  refine xild 2 ⟨u310, _, rfl⟩ rfl rfl ?_
  refine xild 3 ⟨u310, _, rfl⟩ rfl rfl ?_
  refine xcallS 6 [.int _, .int _] [.int _] hH ⟨u310, _, rfl⟩ rfl rfl rfl rfl rfl (k_max (fun z3 h3 => ⟨_, rfl, ?_⟩))
  refine xcallS 9 [.int _, .int _] [] hH ⟨u310, _, rfl⟩ rfl rfl rfl rfl rfl (k_max (fun z6 h6 => ⟨_, rfl, ?_⟩))
  refine xist 10 ⟨u310, _, rfl⟩ rfl rfl ?_
  refine xild 11 ⟨u310, _, rfl⟩ rfl rfl ?_
  refine xild 12 ⟨u310, _, rfl⟩ rfl rfl ?_
  refine xild 13 ⟨u310, _, rfl⟩ rfl rfl ?_
  refine xcallS 16 [.int _, .int _] [.int _] hH ⟨u310, _, rfl⟩ rfl rfl rfl rfl rfl (k_min (fun z13 h13 => ⟨_, rfl, ?_⟩))
  refine xcallS 19 [.int _, .int _] [] hH ⟨u310, _, rfl⟩ rfl rfl rfl rfl rfl (k_min (fun z16 h16 => ⟨_, rfl, ?_⟩))
  refine xist2 21 ⟨u310, _, rfl⟩ rfl rfl ?_
  have e6 : z6.toInt = ((max x (max y z) : Nat) : Int) := by omega
  have e16 : z16.toInt = ((min x (min y z) : Nat) : Int) := by omega
  refine xsip 24 (256) ⟨u310, _, rfl⟩ rfl (by decide) (fun z21 h21 => ?_)
  refine xild 25 ⟨u310, _, rfl⟩ rfl rfl ?_
  refine xmul 26 (256 * Int32.toInt z6) ⟨u310, _, rfl⟩ rfl (by rw [h21]) (by omega) (by omega) (fun z25 h25 => ?_)
  refine xbip 28 (16) ⟨u310, _, rfl⟩ rfl (by decide) (fun z26 h26 => ?_)
  refine xild 29 ⟨u310, _, rfl⟩ rfl rfl ?_
  refine xild 30 ⟨u310, _, rfl⟩ rfl rfl ?_
  refine xadd 31 _ ⟨u310, _, rfl⟩ rfl rfl (by omega) (by omega) (fun z30 h30 => ?_)
  refine xild 32 ⟨u310, _, rfl⟩ rfl rfl ?_
  refine xadd 33 _ ⟨u310, _, rfl⟩ rfl rfl (by omega) (by omega) (fun z32 h32 => ?_)
  refine xild 34 ⟨u310, _, rfl⟩ rfl rfl ?_
  refine xsub 35 _ ⟨u310, _, rfl⟩ rfl rfl (by omega) (by omega) (fun z34 h34 => ?_)
  refine xild2 37 ⟨u310, _, rfl⟩ rfl rfl ?_
  refine xsub 38 _ ⟨u310, _, rfl⟩ rfl rfl (by omega) (by omega) (fun z37 h37 => ?_)
  refine xmul 39 (16 * Int32.toInt z37) ⟨u310, _, rfl⟩ rfl (by rw [h26]) (by omega) (by omega) (fun z38 h38 => ?_)
  refine xadd 40 _ ⟨u310, _, rfl⟩ rfl rfl (by omega) (by omega) (fun z39 h39 => ?_)
  refine xild2 42 ⟨u310, _, rfl⟩ rfl rfl ?_
  refine xadd 43 _ ⟨u310, _, rfl⟩ rfl rfl (by omega) (by omega) (fun z42 h42 => ?_)
  exact xret ⟨u310, _, rfl⟩ rfl (hR _ (by unfold cod; omega))
theorem k_311E {d V x y z : Nat} {T : sT} {hp : amH} {R : xQ} {c : Int32} (hH : bHk 84 bTT hp) (hB : rdOk hp V T) (hc : opC V T = 0) (h : c.toInt = ((256 * z + 16 * y + x : Nat) : Int)) (h1 : x < y) (h2 : y < z) (h3 : z < V)
    (hR : ∀ r : Int32, r.toInt = ((nxV T x y z : Nat) : Int) → R (.inl (some (.int r))) hp) : xK (d + 2) 311 [.ref 66, .int c] hp R := by
  have u311 : bUp 0 am_m311.1 = true := by decide +kernel
  have hT := hB.2.1
  have h15 := hT.2.1
  obtain ⟨p, q, r, ep, eq, er, lp, lq, lr, npq, nqr, npr⟩ := nx_pts hT hc (show x < V by omega) (show y < V by omega) h3 (by omega) (by omega) (by omega)
  have en : nxV T x y z = cod p q r := by unfold nxV; rw [ep, eq, er]; rfl
  rw [en] at hR
  refine xin (M := am_m311) rfl rfl rfl ?_
  refine xild 1 ⟨u311, _, rfl⟩ rfl rfl ?_
  refine xsip 4 (256) ⟨u311, _, rfl⟩ rfl (by decide) (fun z1 h1 => ?_)
  refine xdiv 5 (Int32.toInt c / 256) ⟨u311, _, rfl⟩ rfl (by omega) (by omega) (by rw [h1]) (fun z4 h4 => ?_)
  refine xist 6 ⟨u311, _, rfl⟩ rfl rfl ?_
  refine xild 7 ⟨u311, _, rfl⟩ rfl rfl ?_
  refine xbip 9 (16) ⟨u311, _, rfl⟩ rfl (by decide) (fun z7 h7 => ?_)
  refine xdiv 10 (Int32.toInt c / 16) ⟨u311, _, rfl⟩ rfl (by omega) (by omega) (by rw [h7]) (fun z9 h9 => ?_)
  refine xbip 12 (16) ⟨u311, _, rfl⟩ rfl (by decide) (fun z10 h10 => ?_)
  refine xrem 13 (Int32.toInt z9 % 16) ⟨u311, _, rfl⟩ rfl (by omega) (by omega) (by rw [h10]) (fun z12 h12 => ?_)
  refine xist 14 ⟨u311, _, rfl⟩ rfl rfl ?_
  refine xild 15 ⟨u311, _, rfl⟩ rfl rfl ?_
  refine xbip 17 (16) ⟨u311, _, rfl⟩ rfl (by decide) (fun z15 h15 => ?_)
  refine xrem 18 (Int32.toInt c % 16) ⟨u311, _, rfl⟩ rfl (by omega) (by omega) (by rw [h15]) (fun z17 h17 => ?_)
  refine xist2 20 ⟨u311, _, rfl⟩ rfl rfl ?_
  refine xald 21 ⟨u311, _, rfl⟩ rfl rfl ?_
  refine xild 22 ⟨u311, _, rfl⟩ rfl rfl ?_
  refine xild 23 ⟨u311, _, rfl⟩ rfl rfl ?_
  refine xcall 26 [.ref 66, .int _, .int _] [] hH ⟨u311, _, rfl⟩ rfl rfl rfl rfl rfl (k_third hH (by omega) (by omega) (by omega) (by omega) (fun z23 h23 => ⟨_, rfl, ?_⟩))
  have h23 := h23.trans (hB.2.2.1 _ _ (by omega) (by omega))
  rw [show Int32.toInt z4 = ((z : Nat) : Int) by omega, show Int32.toInt z12 = ((y : Nat) : Int) by omega, Int.toNat_natCast, Int.toNat_natCast, sy_T hT, ep] at h23
  refine xild2 28 ⟨u311, _, rfl⟩ rfl rfl ?_
  refine xcmp_ne 31 ⟨u311, _, rfl⟩ rfl (fun c28 => ?_) (fun c28 => ?_)
  · refine xald 34 ⟨u311, _, rfl⟩ rfl rfl ?_
    refine xild 35 ⟨u311, _, rfl⟩ rfl rfl ?_
    refine xild2 37 ⟨u311, _, rfl⟩ rfl rfl ?_
    refine xcall 40 [.ref 66, .int _, .int _] [] hH ⟨u311, _, rfl⟩ rfl rfl rfl rfl rfl (k_third hH (by omega) (by omega) (by omega) (by omega) (fun z37 h37 => ⟨_, rfl, ?_⟩))
    have h37 := h37.trans (hB.2.2.1 _ _ (by omega) (by omega))
    rw [show Int32.toInt z12 = ((y : Nat) : Int) by omega, show Int32.toInt z17 = ((x : Nat) : Int) by omega, Int.toNat_natCast, Int.toNat_natCast, sy_T hT, er] at h37
    refine xald 41 ⟨u311, _, rfl⟩ rfl rfl ?_
    refine xild 42 ⟨u311, _, rfl⟩ rfl rfl ?_
    refine xild2 44 ⟨u311, _, rfl⟩ rfl rfl ?_
    refine xcall 47 [.ref 66, .int _, .int _] [.int _] hH ⟨u311, _, rfl⟩ rfl rfl rfl rfl rfl (k_third hH (by omega) (by omega) (by omega) (by omega) (fun z44 h44 => ⟨_, rfl, ?_⟩))
    have h44 := h44.trans (hB.2.2.1 _ _ (by omega) (by omega))
    rw [show Int32.toInt z4 = ((z : Nat) : Int) by omega, show Int32.toInt z17 = ((x : Nat) : Int) by omega, Int.toNat_natCast, Int.toNat_natCast, sy_T hT, eq] at h44
    refine xald 48 ⟨u311, _, rfl⟩ rfl rfl ?_
    refine xild 49 ⟨u311, _, rfl⟩ rfl rfl ?_
    refine xild 50 ⟨u311, _, rfl⟩ rfl rfl ?_
    refine xcall 53 [.ref 66, .int _, .int _] [.int _, .int _] hH ⟨u311, _, rfl⟩ rfl rfl rfl rfl rfl (k_third hH (by omega) (by omega) (by omega) (by omega) (fun z50 h50 => ⟨_, rfl, ?_⟩))
    have h50 := h50.trans (hB.2.2.1 _ _ (by omega) (by omega))
    rw [show Int32.toInt z4 = ((z : Nat) : Int) by omega, show Int32.toInt z12 = ((y : Nat) : Int) by omega, Int.toNat_natCast, Int.toNat_natCast, sy_T hT, ep] at h50
    refine xcallS 56 [.int _, .int _, .int _] [] hH ⟨u311, _, rfl⟩ rfl rfl rfl rfl rfl (k_310E hH (x := r) (y := q) (z := p) h37 h44 h50 (by omega) (by omega) (by omega) (fun z53 h53 => ⟨_, rfl, ?_⟩))
    exact xret ⟨u311, _, rfl⟩ rfl (hR _ (by rw [h53, show cod r q p = cod p q r by unfold cod; omega]))
  · refine xild 32 ⟨u311, _, rfl⟩ rfl rfl ?_
    exact xret ⟨u311, _, rfl⟩ rfl (hR _ (by
      obtain rfl : p = x := by omega
      have k1 : T z y = (p : Int) := by rw [sy_T hT]; exact ep
      obtain ⟨k, ek, -, -, -, -, -, -, -, q1⟩ := sOk_at hT k1 (by omega)
      obtain rfl : p = k := by omega
      have k2 : T z p = (q : Int) := by rw [sy_T hT]; exact eq
      obtain rfl : y = q := by omega
      obtain ⟨k, ek, -, -, -, -, -, -, -, q2⟩ := sOk_at hT ep (by omega)
      obtain rfl : p = k := by omega
      have k3 : T y p = (r : Int) := by rw [sy_T hT]; exact er
      obtain rfl : z = r := by omega
      rw [cod_s h1 h2]
      exact h))
theorem k_309E {d V n : Nat} {h : Nat → sR} {sv : Option sR} {T : sT} {ty : Nat → Int} {hp : amH} {R : xQ} {a b c : Int32} (hH : bHk 84 bTT hp) (hP : P0 hp) (hS : rfS hp (V, T, ty) n h sv)
    (hR : ∀ (z : Int32) hp1, bHk 84 bTT hp1 → P0 hp1 → bFr ((66, 7) :: bLT) hp hp1 → rfS hp1 (V, T, ty) n h sv → rN hp1 66 7 = gTn V T a.toInt b.toInt c.toInt → ((gTn V T a.toInt b.toInt c.toInt = 0 ∧ z.toInt = 0) ∨ (¬ gTn V T a.toInt b.toInt c.toInt = 0 ∧ z.toInt = 1)) → R (.inl (some (.int z))) hp1) : xK (d + 5) 309 [.ref 66, .int a, .int b, .int c] hp R := by
  have u309 : bUp 0 am_m309.1 = true := by decide +kernel
  have hB : rdOk hp V T := rowOk_rd hS.1
  have b0 : rN hp 67 0 = (V : Int) := hB.1
  have h15 : V ≤ 15 := hB.2.1.2.1
  have ic01 : icV V T = 0 ∨ icV V T = 1 := by unfold icV; split <;> simp
  refine xin (M := am_m309) rfl rfl rfl ?_
  refine xald 1 ⟨u309, _, rfl⟩ rfl rfl ?_
  refine xild 2 ⟨u309, _, rfl⟩ rfl rfl ?_
  refine xild 3 ⟨u309, _, rfl⟩ rfl rfl ?_
  refine xild 4 ⟨u309, _, rfl⟩ rfl rfl ?_
  refine xcall 7 [.ref 66, .int _, .int _, .int _] [] hH ⟨u309, _, rfl⟩ rfl rfl rfl rfl rfl (k_gp3 hH b0 h15 (fun z4 hp4 hH4 F4 t4 o4 => ⟨_, rfl, ?_⟩))
  have S4 := rfS_W hS F4 (fun _ => rfl) rfl rfl (fun _ => rfl) (fun _ => rfl)
  have P4 : P0 hp4 := P0_W (W := [(66, 7)]) (by decide) F4 hP
  refine xif_ne 10 ⟨u309, _, rfl⟩ rfl (fun c7 => ?_) (fun c7 => ?_)
  · have g4 : ¬ gSet V a.toInt b.toInt c.toInt = 0 := by omega
    refine xcst 31 (1) ⟨u309, _, rfl⟩ rfl (by decide) (fun z30 h30 => ?_)
    refine xgoto ⟨u309, _, rfl⟩ ?_
    exact xretB ⟨u309, _, rfl⟩ rfl (by omega) (hR _ hp4 hH4 P4 (bFr_sub F4 (by decide)) S4 (by rw [gTn_g g4]; exact t4) (Or.inr ⟨by rw [gTn_g g4]; exact g4, by omega⟩))
  · have g4 : gSet V a.toInt b.toInt c.toInt = 0 := by omega
    refine xald 11 ⟨u309, _, rfl⟩ rfl rfl ?_
    refine xald 12 ⟨u309, _, rfl⟩ rfl rfl ?_
    refine xcall 15 [.ref 66] [.ref 66] hH4 ⟨u309, _, rfl⟩ rfl rfl rfl rfl rfl (k_262E hH4 P4 (rowOk_rd S4.1) (fun z12 hp12 hH12 F12 B12 L12 h12 => ⟨_, rfl, ?_⟩))
    have S12 := rfS_W S4 F12 (fun _ => rfl) rfl rfl (fun _ => rfl) (fun _ => rfl)
    have P12 : P0 hp12 := P0_W (W := bLT) (by decide) F12 P4
    have t12 : rN hp12 66 7 = rN hp4 66 7 := r_fr F12 rfl
    refine xif_ne 18 ⟨u309, _, rfl⟩ rfl (fun c15 => ?_) (fun c15 => ?_)
    · have k12 : opC V T = 0 := by
        unfold icV at h12
        split at h12
        · assumption
        · omega
      refine xcst 23 (0) ⟨u309, _, rfl⟩ rfl (by decide) (fun z22 h22 => ?_)
      refine xcst 24 (3) ⟨u309, _, rfl⟩ rfl (by decide) (fun z23 h23 => ?_)
      refine xcall 27 [.ref 66, .int _, .int _] [] hH12 ⟨u309, _, rfl⟩ rfl rfl rfl rfl rfl (k_failsE hH12 (by omega) (fun hp24 hH24 V24 => ⟨_, rfl, ?_⟩))
      refine xif_eq 30 ⟨u309, _, rfl⟩ rfl (fun c27 => ?_) (fun c27 => ?_)
      · refine xcst 35 (0) ⟨u309, _, rfl⟩ rfl (by decide) (fun z34 h34 => ?_)
        rcases V24 with ⟨q1, e⟩ | ⟨q1, -⟩
        · have e := e.symm
          subst e
          exact xretB ⟨u309, _, rfl⟩ rfl (by omega) (hR _ hp12 hH12 P12 ((bFr_sub F4 (by decide)).trans (bFr_sub F12 (by decide))) S12 (by rw [t12, t4, gTn_0.mpr ⟨g4, k12⟩]; exact g4) (Or.inl ⟨gTn_0.mpr ⟨g4, k12⟩, by omega⟩))
        · omega
      · rcases V24 with ⟨q1, -⟩ | ⟨q1, -⟩ <;> omega
    · have k12 : ¬ opC V T = 0 := by
        unfold icV at h12
        split at h12
        · omega
        · assumption
      refine xcst 19 (1) ⟨u309, _, rfl⟩ rfl (by decide) (fun z18 h18 => ?_)
      refine xgoto ⟨u309, _, rfl⟩ ?_
      refine xcst 24 (3) ⟨u309, _, rfl⟩ rfl (by decide) (fun z23 h23 => ?_)
      refine xcall 27 [.ref 66, .int _, .int _] [] hH12 ⟨u309, _, rfl⟩ rfl rfl rfl rfl rfl (k_failsE hH12 (by omega) (fun hp24 hH24 V24 => ⟨_, rfl, ?_⟩))
      refine xif_eq 30 ⟨u309, _, rfl⟩ rfl (fun c27 => ?_) (fun c27 => ?_)
      · rcases V24 with ⟨q1, -⟩ | ⟨q1, -⟩ <;> omega
      · refine xcst 31 (1) ⟨u309, _, rfl⟩ rfl (by decide) (fun z30 h30 => ?_)
        refine xgoto ⟨u309, _, rfl⟩ ?_
        rcases V24 with ⟨q1, -⟩ | ⟨q1, U⟩
        · omega
        · exact xretB ⟨u309, _, rfl⟩ rfl (by omega) (hR _ hp24 hH24 (P0_W (W := [(66, 7)]) (by decide) (rU_fr U rfl) P12) (((bFr_sub F4 (by decide)).trans (bFr_sub F12 (by decide))).trans (rU_fr U (by decide))) (rfS_W (W := [(66, 7)]) S12 (rU_fr U rfl) (fun _ => rfl) rfl rfl (fun _ => rfl) (fun _ => rfl)) (by rw [U.1, gTn_3 g4 k12]; omega) (Or.inr ⟨by rw [gTn_3 g4 k12]; decide, by omega⟩))
theorem k_314E {d V n : Nat} {h : Nat → sR} {sv : Option sR} {T : sT} {ty : Nat → Int} {hp : amH} {R : xQ} {a b c : Int32} (hH : bHk 84 bTT hp) (hP : P0 hp) (hS : rfS hp (V, T, ty) n h sv)
    (hR : ∀ (z : Int32) hp1, bHk 84 bTT hp1 → P0 hp1 → bFr wM hp hp1 → rN hp1 66 7 = gTn V T a.toInt b.toInt c.toInt → ((¬ gTn V T a.toInt b.toInt c.toInt = 0 ∧ rfS hp1 (V, T, ty) n h sv) ∨ (gTn V T a.toInt b.toInt c.toInt = 0 ∧ rfS hp1 (V, T, ty) n h sv ∧ z.toInt = ((nxV T a.toInt.toNat b.toInt.toNat c.toInt.toNat : Nat) : Int))) → R (.inl (some (.int z))) hp1) : xK (d + 7) 314 [.ref 66, .int a, .int b, .int c] hp R := by
  have hB : rdOk hp V T := rowOk_rd hS.1
  have b0 : rN hp 67 0 = (V : Int) := hB.1
  have hT0 : sOk V T := hB.2.1
  have h15 : V ≤ 15 := hT0.2.1
  have l35 : (trL T 225).length ≤ 35 := trL_35 hT0 225
  refine xin (M := am_m314) rfl rfl rfl ?_
  refine xald 1 ⟨u314, _, rfl⟩ rfl rfl ?_
  refine xild 2 ⟨u314, _, rfl⟩ rfl rfl ?_
  refine xild 3 ⟨u314, _, rfl⟩ rfl rfl ?_
  refine xild 4 ⟨u314, _, rfl⟩ rfl rfl ?_
  refine xcall 7 [.ref 66, .int _, .int _, .int _] [] hH ⟨u314, _, rfl⟩ rfl rfl rfl rfl rfl (k_309E hH hP hS (fun z4 hp4 hH4 P4 F4 S4 t4 o4 => ⟨_, rfl, ?_⟩))
  refine xif_eq 10 ⟨u314, _, rfl⟩ rfl (fun c7 => ?_) (fun c7 => ?_)
  · have g4 : gTn V T a.toInt b.toInt c.toInt = 0 := by omega
    have k4 := gSet_0.mp (gTn_0.mp g4).1
    have c4 := (gTn_0.mp g4).2
    obtain ⟨x, y, z, s1, s2, s3, -, ec, en⟩ := set_s (a := a.toInt.toNat) (b := b.toInt.toNat) (c := c.toInt.toNat) (by omega) (by omega) (by omega)
    have lz : z < V := by have := (s3 z).mp (Or.inr (Or.inr rfl)); omega
    refine xald 15 ⟨u314, _, rfl⟩ rfl rfl ?_
    refine xild 16 ⟨u314, _, rfl⟩ rfl rfl ?_
    refine xild 17 ⟨u314, _, rfl⟩ rfl rfl ?_
    refine xild 18 ⟨u314, _, rfl⟩ rfl rfl ?_
    refine xcallS 21 [.int _, .int _, .int _] [.ref 66] hH4 ⟨u314, _, rfl⟩ rfl rfl rfl rfl rfl (k_310E hH4 (x := a.toInt.toNat) (y := b.toInt.toNat) (z := c.toInt.toNat) (by omega) (by omega) (by omega) (by omega) (by omega) (by omega) (fun z18 h18 => ⟨_, rfl, ?_⟩))
    rw [ec, cod_s s1 s2] at h18
    refine xcall 24 [.ref 66, .int _] [] hH4 ⟨u314, _, rfl⟩ rfl rfl rfl rfl rfl (k_311E hH4 (rowOk_rd S4.1) c4 h18 s1 s2 lz (fun z21 h21 => ⟨_, rfl, ?_⟩))
    exact xret ⟨u314, _, rfl⟩ rfl (hR _ hp4 hH4 P4 (bFr_sub F4 (by decide)) t4 (Or.inr ⟨g4, S4, by rw [en hT0]; exact h21⟩))
  · refine xcst 11 (0) ⟨u314, _, rfl⟩ rfl (by decide) (fun z10 h10 => ?_)
    refine xgoto ⟨u314, _, rfl⟩ ?_
    exact xret ⟨u314, _, rfl⟩ rfl (hR _ hp4 hH4 P4 (bFr_sub F4 (by decide)) t4 (Or.inl ⟨by omega, S4⟩))
theorem h371E {d : Nat} {hp : amH} {R : cQ} {x1 x2 x3 : Int32} {V n : Nat} {h : Nat → sR} {sv : Option sR} {T : sT} {ty : Nat → Int} (hI : lawI hp) (c : clS hp (V, T, ty) n h sv) (r : rfS hp (V, T, ty) n h sv)
    (hR : ∀ (z : Int32) hp1 mc ms, lawI hp1 → rfS hp1 (V, T, ty) n h sv → z.toInt = gTn V T x1.toInt x2.toInt x3.toInt → ((¬ gTn V T x1.toInt x2.toInt x3.toInt = 0 ∧ clS hp1 (V, T, ty) n h sv) ∨ (gTn V T x1.toInt x2.toInt x3.toInt = 0 ∧ clS hp1 (V, T, ty) n h sv ∧ rJ hp1 83 0 = ((nxV T x1.toInt.toNat x2.toInt.toNat x3.toInt.toNat : Nat) : Int))) → mc ≤ 1 → ms ≤ 6 → R (.inl (some (.int z))) hp1 mc ms) : cK (d + 20) 371 [.ref 0, .int x1, .int x2, .int x3, .ref 83] hp R := by
  refine cin (M := am_m371) rfl rfl rfl ?_
  refine cald2 2 ⟨u371J, _, rfl⟩ rfl rfl ?_
  refine ccst 3 (0) ⟨u371J, _, rfl⟩ rfl (by decide) (fun z2 h2 => ?_)
  refine cald 4 ⟨u371J, _, rfl⟩ rfl rfl ?_
  refine cild 5 ⟨u371J, _, rfl⟩ rfl rfl ?_
  refine cild 6 ⟨u371J, _, rfl⟩ rfl rfl ?_
  refine cild 7 ⟨u371J, _, rfl⟩ rfl rfl ?_
  refine ccall (kd := 0) (t := 3) [.ref 0, .int _, .int _, .int _] [.int _, .ref 83] hI.1 ⟨u371J, _, rfl⟩ (Or.inl ⟨_, rfl, rfl, by decide, by decide⟩) rfl rfl rfl ⟨rfl, rfl, rfl⟩ rfl (recv0 hI.1 _) rfl (qKE (Φ := fun z hp1 => bHk 84 bTT hp1 ∧ cF hp hp1 ∧ gTn V T x1.toInt x2.toInt x3.toInt = 0 ∧ clS hp1 (V, T, ty) n h sv ∧ z.toInt = ((nxV T x1.toInt.toNat x2.toInt.toNat x3.toInt.toNat : Nat) : Int)) (Ψ := fun E hp1 => lawI hp1 ∧ rfS hp1 (V, T, ty) n h sv ∧ clS hp1 (V, T, ty) n h sv ∧ ¬ gTn V T x1.toInt x2.toInt x3.toInt = 0 ∧ ((gTn V T x1.toInt x2.toInt x3.toInt = 1 ∧ E = 1) ∨ (gTn V T x1.toInt x2.toInt x3.toInt = 2 ∧ E = 0) ∨ (gTn V T x1.toInt x2.toInt x3.toInt = 3 ∧ E = 2))) (fun R g1 g2 => k_150E (d := d + 13) hI.1 c (fun E hp1 b1 b2 b3 e1 e2 => g2 E hp1 ⟨law_cl hI b1 b2, cF_rf b2 r, b3, e1, e2⟩) (fun z hp1 a1 a2 a3 a4 a5 => g1 z hp1 ⟨a1, a2, a3, a4, a5⟩)) (fun z hp1 φ => Or.inl ⟨_, rfl, ?_⟩) (fun E hp1 ψ => Or.inr ?_))
  · refine ci2lE 11 ⟨u371J, _, rfl⟩ rfl (fun w hw => ?_)
    refine clastE 12 φ.1 ⟨u371J, _, rfl⟩ rfl h2 (fun hp2 hH2 F2 J2 => ?_)
    refine cgoto ⟨u371J, _, rfl⟩ ?_
    refine ccst 28 (0) ⟨u371J, _, rfl⟩ rfl (by decide) (fun z9 h9 => ?_)
    exact cret ⟨u371J, _, rfl⟩ (Or.inl rfl) (hR _ _ _ _ (lawI_83 (law_cl hI φ.1 φ.2.1) hH2 F2) (rf_83 F2 (cF_rf φ.2.1 r)) (by rw [φ.2.2.1]; exact h9) (Or.inr ⟨φ.2.2.1, cl_83 F2 φ.2.2.2.1, by rw [J2, hw]; exact φ.2.2.2.2⟩) (by decide) (by decide))
  · obtain ⟨ψ0, ψr, ψc, ψ1, ψ2⟩ := ψ
    rcases ψ2 with ⟨ce, rfl⟩ | ⟨ce, rfl⟩ | ⟨ce, rfl⟩
    · refine ⟨1, 15, 5, 17, rfl, rfl, rfl, rfl, ?_⟩
      refine ccst 18 (1) ⟨u371J, _, rfl⟩ rfl (by decide) (fun z9 h9 => ?_)
      exact cret ⟨u371J, _, rfl⟩ (Or.inl rfl) (hR _ _ _ _ ψ0 ψr (by rw [ce]; exact h9) (Or.inl ⟨ψ1, ψc⟩) (by decide) (by decide))
    · refine ⟨0, 19, 5, 21, rfl, rfl, rfl, rfl, ?_⟩
      refine ccst 22 (2) ⟨u371J, _, rfl⟩ rfl (by decide) (fun z9 h9 => ?_)
      exact cret ⟨u371J, _, rfl⟩ (Or.inl rfl) (hR _ _ _ _ ψ0 ψr (by rw [ce]; exact h9) (Or.inl ⟨ψ1, ψc⟩) (by decide) (by decide))
    · refine ⟨2, 23, 5, 25, rfl, rfl, rfl, rfl, ?_⟩
      refine ccst 26 (3) ⟨u371J, _, rfl⟩ rfl (by decide) (fun z9 h9 => ?_)
      exact cret ⟨u371J, _, rfl⟩ (Or.inl rfl) (hR _ _ _ _ ψ0 ψr (by rw [ce]; exact h9) (Or.inl ⟨ψ1, ψc⟩) (by decide) (by decide))
