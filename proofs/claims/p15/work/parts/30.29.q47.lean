/-! ===== orbits of triples on both sides ===== -/
theorem j_shr {x : Int64} {c : Int32} {m k : Nat} (hx : x.toInt = (m : Int)) (hc : c.toInt = (k : Int)) (hk : k < 62) : (x >>> (c.toInt64 &&& 63)).toInt = ((m >>> k : Nat) : Int) := by
  obtain ⟨e1, l1⟩ := jN_t hx
  have e2 : (c.toInt64 &&& 63).toBitVec.smod 64 = BitVec.ofNat 64 k := by
    have : c = Int32.ofNat k := Int32.toInt_inj.mp (by rw [hc, Int32.toInt_ofNat_of_lt (by omega)])
    rw [this]
    exact j_sh ⟨k, hk⟩
  have hm : x.toBitVec.msb = false := by
    rw [BitVec.msb_eq_false_iff_two_mul_lt]
    unfold jN at e1
    omega
  have h3 : m >>> k ≤ m := Nat.shiftRight_le m k
  have e3 : jN (x >>> (c.toInt64 &&& 63)) = m >>> k := by
    unfold jN at *
    rw [Int64.toBitVec_shiftRight, e2]
    unfold BitVec.sshiftRight'
    rw [BitVec.sshiftRight_eq_of_msb_false hm, BitVec.toNat_ushiftRight, e1, BitVec.toNat_ofNat, Nat.mod_eq_of_lt (show k < 2 ^ 64 by omega)]
  rw [t_jN (by rw [e3]; omega), e3]
theorem bit_1 {m t : Nat} : m >>> t &&& 1 = (m.testBit t).toNat := by
  rw [Nat.and_one_is_mod, Nat.shiftRight_eq_div_pow, Nat.testBit_eq_decide_div_mod_eq]
  by_cases h : m / 2 ^ t % 2 = 1
  · rw [h]; rfl
  · have : m / 2 ^ t % 2 = 0 := by omega
    rw [this]; rfl
theorem hC_at {σ : Nat → Nat} {T : sT} {n : Nat} (h : hC σ T 225 = (trL T 225).length) (hn : n < 225) (hb : trB T n = true) : T (σ (n / 15)) (σ (n % 15)) = ((σ (T (n / 15) (n % 15)).toNat : Nat) : Int) := by
  apply Classical.byContradiction
  intro g
  have e1 : (trL T (n + 1)).length = (trL T n).length + 1 := by rw [trL_add hb, List.length_append, List.length_singleton]
  have e2 : hC σ T (n + 1) = hC σ T n := by
    show hC σ T n + (if trB T n = true ∧ T (σ (n / 15)) (σ (n % 15)) = ((σ (T (n / 15) (n % 15)).toNat : Nat) : Int) then 1 else 0) = _
    rw [if_neg (fun z => g z.2)]
  have g0 := hC_gap (σ := σ) (T := T) 0 n
  rw [Nat.zero_add] at g0
  have g1 : hC σ T 0 = 0 := rfl
  have g2 : (trL T 0).length = 0 := rfl
  have g3 := hC_gap (σ := σ) (T := T) (n + 1) (225 - (n + 1))
  rw [show n + 1 + (225 - (n + 1)) = 225 by omega] at g3
  omega
/-- a turn that keeps each triple keeps each third point -/
theorem au_T {V : Nat} {T : sT} {σ : Nat → Nat} (hT : sOk V T) (hs : sPm V σ) (h : hC σ T 225 = (trL T 225).length) {a b c : Nat} (e : T a b = (c : Int)) : T (σ a) (σ b) = ((σ c : Nat) : Int) := by
  have h1 : ¬ T a b = -1 := by rw [e]; omega
  obtain ⟨g1, g2, g3⟩ := cd_of hT h1
  obtain ⟨z, k1, k2, k3, k4⟩ := tr_pts hT g1
  have q := hC_at h g2 g1
  rw [k1, Int.toNat_natCast] at q
  rw [k1, Int.toNat_natCast] at g3
  have s := sPr_T hT k1 g3
  generalize cd T a b / 15 = x at *
  generalize cd T a b % 15 = y at *
  have nxy : ¬ σ x = σ y := fun w => by have := hs.2.1 _ _ (by omega) (by omega) w; omega
  have nyz : ¬ σ y = σ z := fun w => by have := hs.2.1 _ _ (by omega) (by omega) w; omega
  have nxz : ¬ σ x = σ z := fun w => by have := hs.2.1 _ _ (by omega) (by omega) w; omega
  obtain ⟨d, p1, p2⟩ := g3
  have s2 : sPr (σ x) (σ y) (σ z) (σ a) (σ b) := by
    refine ⟨?_, p1.imp (congrArg σ) (Or.imp (congrArg σ) (congrArg σ)), p2.imp (congrArg σ) (Or.imp (congrArg σ) (congrArg σ))⟩
    intro w
    have ha : a < V := by rcases p1 with p | p | p <;> omega
    have hb : b < V := by rcases p2 with p | p | p <;> omega
    exact d (hs.2.1 _ _ ha hb w)
  have s3 := sPr_T hT q s2
  rw [s3]
  rcases p1 with p1 | p1 | p1 <;> rcases p2 with p2 | p2 | p2 <;>
    first
    | exact absurd (p1.trans p2.symm) d
    | (have e3 : c = z := by omega
       have e1 := congrArg σ p1
       have e2 := congrArg σ p2
       have e4 := congrArg σ e3
       omega)
    | (have e3 : c = y := by omega
       have e1 := congrArg σ p1
       have e2 := congrArg σ p2
       have e4 := congrArg σ e3
       omega)
    | (have e3 : c = x := by omega
       have e1 := congrArg σ p1
       have e2 := congrArg σ p2
       have e4 := congrArg σ e3
       omega)
def oQ (V k i : Nat) : Nat := i * k % V
theorem tn_oQ {V k i p : Nat} : tn V (oQ V k i) p = (p + i * k) % V := by unfold tn oQ; rw [Nat.add_mod_mod]
theorem tn_s {V k i p : Nat} : tn V k (tn V (oQ V k i) p) = tn V (oQ V k (i + 1)) p := by
  rw [tn_oQ, tn_oQ]
  unfold tn
  rw [Nat.mod_add_mod, Nat.succ_mul, Nat.add_assoc]
theorem tn_a {V k i j p : Nat} : tn V (oQ V k j) (tn V (oQ V k i) p) = tn V (oQ V k (i + j)) p := by
  rw [tn_oQ, tn_oQ, tn_oQ, Nat.mod_add_mod, Nat.add_mul, Nat.add_assoc]
theorem oQ_lt {V k i : Nat} (hV : 0 < V) : oQ V k i < V := Nat.mod_lt _ hV
theorem tkV_e {V k : Nat} {T : sT} (h : tkV V k T = 1) : hC (tn V k) T 225 = (trL T 225).length := by
  apply Classical.byContradiction
  intro g
  rw [tkV_n g] at h
  omega
theorem au_I {V k : Nat} {T : sT} (hT : sOk V T) (hk : k < V) (h : tkV V k T = 1) {a b c : Nat} (e : T a b = (c : Int)) (ha : a < V) (hb : b < V) (hc : c < V) : ∀ i, T (tn V (oQ V k i) a) (tn V (oQ V k i) b) = ((tn V (oQ V k i) c : Nat) : Int)
  | 0 => by
    have e0 : oQ V k 0 = 0 := by unfold oQ; rw [Nat.zero_mul, Nat.zero_mod]
    rw [e0, tn_0 ha, tn_0 hb, tn_0 hc]
    exact e
  | i + 1 => by
    have ih := au_I hT hk h e ha hb hc i
    have g := au_T hT (sPm_tn hk) (tkV_e h) ih
    rw [tn_s, tn_s, tn_s] at g
    exact g
theorem mN_p {V : Nat} {T : sT} (hT : sOk V T) {t : Nat} (ht : t < (trL T 225).length) : ∃ x y z : Nat, mN T t = m3 x y z ∧ x < y ∧ y < z ∧ z < V ∧ T x y = (z : Int) := by
  obtain ⟨g1, -, -⟩ := trL_get 225 t ht
  obtain ⟨w, ew, k1, k2, k3⟩ := tr_pts hT g1
  exact ⟨_, _, w, by unfold mN mk3; rw [ew, Int.toNat_natCast], k1, k2, k3, ew⟩
theorem rot_t {V k x y z : Nat} (hV : V ≤ 15) (hk : k < V) (hx : x < V) (hy : y < V) (hz : z < V) : rotN V k (m3 x y z) = m3 (tn V k x) (tn V k y) (tn V k z) := rot_m3 hV hk hx hy hz
/-- the triple behind some turns -/
def oI (V k : Nat) (T : sT) (t i : Nat) : Nat := (nmT T (rotN V (oQ V k i) (mN T t))).toNat
theorem oI_s {V k : Nat} {T : sT} (hT : sOk V T) (hk : k < V) (h : tkV V k T = 1) {t : Nat} (ht : t < (trL T 225).length) (i : Nat) : nmT T (rotN V (oQ V k i) (mN T t)) = ((oI V k T t i : Nat) : Int) ∧ oI V k T t i < (trL T 225).length ∧ mN T (oI V k T t i) = rotN V (oQ V k i) (mN T t) := by
  obtain ⟨x, y, z, q1, q2, q3, q4, q5⟩ := mN_p hT ht
  have hq : oQ V k i < V := oQ_lt (by omega)
  have e := au_I hT hk h q5 (by omega) (by omega) q4 i
  have r : rotN V (oQ V k i) (mN T t) = m3 (tn V (oQ V k i) x) (tn V (oQ V k i) y) (tn V (oQ V k i) z) := by rw [q1]; exact rot_t hT.2.1 hq (by omega) (by omega) q4
  obtain ⟨u, h1, -, h3⟩ := nm_of hT e
  have e2 : oI V k T t i = u := by unfold oI; rw [r, h3, Int.toNat_natCast]
  rw [e2, r]
  exact ⟨h3, h1, (nm_inv h3).2⟩
theorem oI_a {V k : Nat} {T : sT} (hT : sOk V T) (hk : k < V) (h : tkV V k T = 1) {t : Nat} (ht : t < (trL T 225).length) (i j : Nat) : oI V k T (oI V k T t i) j = oI V k T t (i + j) := by
  obtain ⟨x, y, z, q1, q2, q3, q4, q5⟩ := mN_p hT ht
  obtain ⟨-, -, e⟩ := oI_s hT hk h ht i
  have hV := hT.2.1
  have l : ∀ i p, tn V (oQ V k i) p < V := fun i p => Nat.mod_lt _ (by omega)
  unfold oI
  rw [show (nmT T (rotN V (oQ V k i) (mN T t))).toNat = oI V k T t i from rfl, e, q1, rot_t hV (oQ_lt (by omega)) (by omega) (by omega) q4, rot_t hV (oQ_lt (by omega)) (l _ _) (l _ _) (l _ _), rot_t hV (oQ_lt (by omega)) (by omega) (by omega) q4, tn_a, tn_a, tn_a]
theorem oI_0 {V k : Nat} {T : sT} (hT : sOk V T) {t : Nat} (ht : t < (trL T 225).length) {i : Nat} (hi : V ∣ i) : oI V k T t i = t := by
  obtain ⟨x, y, z, q1, q2, q3, q4, q5⟩ := mN_p hT ht
  have hV := hT.2.1
  have e0 : oQ V k i = 0 := Nat.mod_eq_zero_of_dvd (Nat.dvd_trans hi (Nat.dvd_mul_right i k))
  have e1 : nmT T (mN T t) = (t : Int) := nm_mk hT ht
  unfold oI
  rw [e0, show rotN V 0 (mN T t) = mN T t by rw [q1, rot_t hV (by omega) (by omega) (by omega) q4, tn_0 (by omega), tn_0 (by omega), tn_0 q4], e1, Int.toNat_natCast]
theorem ex_min (f : Nat → Nat) : ∀ n i, f i ≤ n → ∃ j, ∀ k, f j ≤ f k
  | 0, i, h => ⟨i, fun k => by omega⟩
  | n + 1, i, h => by
    by_cases g : ∃ j, f j < f i
    · obtain ⟨j, hj⟩ := g
      exact ex_min f n j (by omega)
    · exact ⟨i, fun k => Nat.le_of_not_lt (fun z => g ⟨k, z⟩)⟩
def oB (V k : Nat) (T : sT) (t : Nat) : Bool := (List.range V).all (fun i => decide (t ≤ oI V k T t (i + 1)))
theorem oB_t {V k : Nat} {T : sT} {t : Nat} : oB V k T t = true ↔ ∀ i, i < V → t ≤ oI V k T t (i + 1) := by
  unfold oB
  rw [List.all_eq_true]
  constructor
  · intro h i hi
    exact of_decide_eq_true (h i (List.mem_range.mpr hi))
  · intro h i hi
    exact decide_eq_true (h i (List.mem_range.mp hi))
/-- not the least of its orbit: in the orbit of a smaller one that is -/
theorem oB_n {V k : Nat} {T : sT} (hT : sOk V T) (hk : k < V) (h : tkV V k T = 1) {t : Nat} (ht : t < (trL T 225).length) : ¬ oB V k T t = true ↔ ∃ s, s < t ∧ oB V k T s = true ∧ ∃ i, i < V ∧ oI V k T s i = t := by
  constructor
  · intro g
    have g2 : ∃ i, i < V ∧ oI V k T t (i + 1) < t := by
      apply Classical.byContradiction
      intro w
      exact g (oB_t.mpr (fun i hi => Nat.le_of_not_lt (fun z => w ⟨i, hi, z⟩)))
    obtain ⟨i, hi, hlt⟩ := g2
    obtain ⟨j, hj⟩ := ex_min (fun i => oI V k T t i) _ 0 (Nat.le_refl _)
    have ml := (oI_s hT hk h ht j).2.1
    refine ⟨oI V k T t j, Nat.lt_of_le_of_lt (hj (i + 1)) hlt, oB_t.mpr (fun a ha => ?_), ?_⟩
    · rw [oI_a hT hk h ht]
      exact hj _
    · have hm := Nat.div_add_mod j V
      have hr : j % V < V := Nat.mod_lt _ (by omega)
      generalize j / V = q at hm
      by_cases r0 : j % V = 0
      · refine ⟨0, by omega, ?_⟩
        rw [oI_a hT hk h ht]
        exact oI_0 hT ht ⟨q, by omega⟩
      · refine ⟨V - j % V, by omega, ?_⟩
        rw [oI_a hT hk h ht]
        exact oI_0 hT ht ⟨q + 1, by rw [Nat.mul_add, Nat.mul_one]; omega⟩
  · rintro ⟨s, hs, hb, i, hi, e⟩ g
    have g1 := oB_t.mp g (V - i - 1) (by omega)
    have hsl : s < (trL T 225).length := by omega
    rw [← e, oI_a hT hk h hsl, show i + (V - i - 1 + 1) = V by omega, oI_0 hT hsl (Nat.dvd_refl V)] at g1
    omega
def orV (V k : Nat) (T : sT) : Nat := sm (fun t => iv (oB V k T t = true)) (trL T 225).length
theorem rot_all2 : ∀ V k x : Fin 16, 0 < (V : Nat) → (k : Nat) ≤ V → x < V → rotN V k (2 ^ (x : Nat)) = 2 ^ (((x : Nat) + k) % V) := by decide +kernel
theorem rot_b {V k x y z : Nat} (hV : V ≤ 15) (hk : k ≤ V) (hx : x < V) (hy : y < V) (hz : z < V) : rotN V k (m3 x y z) = m3 (tn V (k % V) x) (tn V (k % V) y) (tn V (k % V) z) := by
  have a : ∀ p, p < V → rotN V k (2 ^ p) = 2 ^ (tn V (k % V) p) := fun p hp => by
    have g : rotN V k (2 ^ p) = 2 ^ ((p + k) % V) := rot_all2 ⟨V, by omega⟩ ⟨k, by omega⟩ ⟨p, by omega⟩ (by show 0 < V; omega) hk hp
    rw [g]
    unfold tn
    rw [Nat.add_mod_mod]
  unfold m3
  rw [rot_or, rot_or, a x hx, a y hy, a z hz]
theorem k_rotL {d : Nat} {hp : amH} {R : xQ} {a b c : Int32} {m k V : Nat} (ha : a.toInt = (m : Int)) (hm : m < 32768) (hb : b.toInt = (k : Int)) (hc : c.toInt = (V : Int)) (hk : k ≤ V) (hV : V ≤ 15) (hR : ∀ r : Int32, r.toInt = ((rotN V k m : Nat) : Int) → R (.inl (some (.int r))) hp) : xK d 71 [.int a, .int b, .int c] hp R := by
  refine xin (M := am_m71) rfl rfl rfl ?_
  refine xild 1 ⟨u71, _, rfl⟩ rfl rfl ?_
  refine xild 2 ⟨u71, _, rfl⟩ rfl rfl ?_
  refine xshl 3 ⟨u71, _, rfl⟩ rfl ?_
  refine xild 4 ⟨u71, _, rfl⟩ rfl rfl ?_
  refine xild 5 ⟨u71, _, rfl⟩ rfl rfl ?_
  refine xild 6 ⟨u71, _, rfl⟩ rfl rfl ?_
  refine xsub 7 _ ⟨u71, _, rfl⟩ rfl rfl (by omega) (by omega) (fun z6 h6 => ?_)
  refine xshr 8 ⟨u71, _, rfl⟩ rfl ?_
  refine xor_ 9 ⟨u71, _, rfl⟩ rfl ?_
  refine xcst 10 (1) ⟨u71, _, rfl⟩ rfl (by decide) (fun z9 h9 => ?_)
  refine xild 11 ⟨u71, _, rfl⟩ rfl rfl ?_
  refine xshl 12 ⟨u71, _, rfl⟩ rfl ?_
  refine xcst 13 (1) ⟨u71, _, rfl⟩ rfl (by decide) (fun z12 h12 => ?_)
  have s5 := i_shlV h9 hc (by omega)
  refine xsub 14 _ ⟨u71, _, rfl⟩ rfl rfl (by omega) (by omega) (fun z13 h13 => ?_)
  refine xand 15 ⟨u71, _, rfl⟩ rfl ?_
  have s1 := i_shlB ha hm hb (by omega)
  have s2 := i_shrG ha (n := V - k) (by omega : z6.toInt = ((V - k : Nat) : Int)) (by omega)
  have s3 : m >>> (V - k) < 1073741824 := Nat.lt_of_le_of_lt (Nat.shiftRight_le _ _) (by omega)
  have s4 := i_orG s1.1 s2 (by omega) (by omega)
  have s6 := i_andG s4.1 (show z13.toInt = ((2 ^ V - 1 : Nat) : Int) by omega) s4.2
  exact xret ⟨u71, _, rfl⟩ rfl (hR _ s6.1)
theorem u31 : bUp 0 am_m31.1 = true := by decide +kernel
theorem l31E {d V t K : Nat} {T : sT} {hp : amH} {R : xQ} {a b : Int32} (hH : bHk 84 bTT hp) (hB : bdOk hp 3 V T) (hL : lsN hp 3 T 225) (hb : b.toInt = (K : Int)) (hK : K ≤ V) (hk : tkV V (K % V) T = 1) (ht : t < (trL T 225).length)
    (hR : ∀ (z : Int64) (m : Nat), z.toInt = (m : Int) → (∀ u, m.testBit u = true ↔ ∃ i, i < V ∧ oI V (K % V) T t i = u) → R (.inl (some (.long z))) hp) :
    ∀ (jj i m : Nat) (w : Int64) (ws wi : Int32), w.toInt = (m : Int) → (∀ u, m.testBit u = true ↔ ∃ j, j < i ∧ oI V (K % V) T t j = u) → ws.toInt = ((rotN V (oQ V (K % V) i) (mN T t) : Nat) : Int) → wi.toInt = (i : Int) → i + jj = V → xV (d + 4) am_m31 12 [some (.ref 3), some (.int a), some (.int b), some (.long w), none, some (.int ws), some (.int wi)] [] hp R := by
  have hT := hB.2.1
  have b0 : rN hp 3 0 = (V : Int) := hB.1
  have hV := hT.2.1
  have hV3 := hT.1
  have l35 := trL_35 hT 225
  have hkk : K % V < V := Nat.mod_lt _ (by omega)
  intro jj
  induction jj with
  | zero =>
    intro i m w ws wi hw hm hws hwi hj
    obtain rfl : i = V := by omega
    refine xild2 14 ⟨u31, _, rfl⟩ rfl rfl ?_
    refine xald 15 ⟨u31, _, rfl⟩ rfl rfl ?_
    refine xgetC 18 hH ⟨u31, _, rfl⟩ rfl (by decide) (by decide) rfl rfl (by decide) (fun z15 h15 => ?_)
    refine xcmp_ge 21 ⟨u31, _, rfl⟩ rfl (fun c18 => ?_) (fun c18 => ?_)
    · refine xlld 51 ⟨u31, _, rfl⟩ rfl rfl ?_
      exact xretJ ⟨u31, _, rfl⟩ rfl (hR _ m hw hm)
    · omega
  | succ jj ih =>
    intro i m w ws wi hw hm hws hwi hj
    obtain ⟨x, y, z, q1, q2, q3, q4, q5⟩ := mN_p hT ht
    have hq : oQ V (K % V) i < V := oQ_lt (by omega)
    have hs := sPm_tn hq
    have bu := hs.1 x (by omega)
    have bv := hs.1 y (by omega)
    have bz := hs.1 z (by omega)
    have nuv : ¬ tn V (oQ V (K % V) i) x = tn V (oQ V (K % V) i) y := fun k => by have := hs.2.1 _ _ (by omega) (by omega) k; omega
    have nvz : ¬ tn V (oQ V (K % V) i) y = tn V (oQ V (K % V) i) z := fun k => by have := hs.2.1 _ _ (by omega) (by omega) k; omega
    have nuz : ¬ tn V (oQ V (K % V) i) x = tn V (oQ V (K % V) i) z := fun k => by have := hs.2.1 _ _ (by omega) (by omega) k; omega
    obtain ⟨o1, o2, o3⟩ := oI_s hT hkk hk ht i
    have ol : oI V (K % V) T t i < 62 := by omega
    have ml := (mN_lt hT o2).1
    have em : rotN V (oQ V (K % V) i) (mN T t) = m3 (tn V (oQ V (K % V) i) x) (tn V (oQ V (K % V) i) y) (tn V (oQ V (K % V) i) z) := by rw [q1]; exact rot_t hV hq (by omega) (by omega) q4
    have em2 : rotN V K (rotN V (oQ V (K % V) i) (mN T t)) = rotN V (oQ V (K % V) (i + 1)) (mN T t) := by
      rw [em, rot_b hV hK bu bv bz, tn_s, tn_s, tn_s, q1, rot_t hV (oQ_lt (by omega)) (by omega) (by omega) q4]
    rw [o3] at ml
    have hws2 := hws
    rw [em] at hws2
    rw [em] at o1
    refine xild2 14 ⟨u31, _, rfl⟩ rfl rfl ?_
    refine xald 15 ⟨u31, _, rfl⟩ rfl rfl ?_
    refine xgetC 18 hH ⟨u31, _, rfl⟩ rfl (by decide) (by decide) rfl rfl (by decide) (fun z15 h15 => ?_)
    refine xcmp_ge 21 ⟨u31, _, rfl⟩ rfl (fun c18 => ?_) (fun c18 => ?_)
    · omega
    · refine xlld 22 ⟨u31, _, rfl⟩ rfl rfl ?_
      refine xlcst 23 (1) ⟨u31, _, rfl⟩ rfl (by decide) (fun z22 h22 => ?_)
      refine xald 24 ⟨u31, _, rfl⟩ rfl rfl ?_
      refine xild2 26 ⟨u31, _, rfl⟩ rfl rfl ?_
      refine xcallC 29 (o := 3) [.int _] [.long _, .long _] hH ⟨u31, _, rfl⟩ rfl rfl (by decide) rfl (by decide) rfl ⟨rfl, rfl, rfl, rfl⟩ rfl (k_nof (o := 3) (Or.inl rfl) hH hB hL hws2 bu bv bz nuv nvz nuz (fun z26 h26 => ⟨_, rfl, ?_⟩))
      rw [o1] at h26
      refine xlshl 30 ⟨u31, _, rfl⟩ rfl ?_
      refine xlor 31 ⟨u31, _, rfl⟩ rfl ?_
      refine xlst 32 ⟨u31, _, rfl⟩ rfl rfl ?_
      have w1 := j_shl h22 h26 ol
      have w2 := j_or hw w1
      refine xild2 34 ⟨u31, _, rfl⟩ rfl rfl ?_
      refine xild 35 ⟨u31, _, rfl⟩ rfl rfl ?_
      refine xald 36 ⟨u31, _, rfl⟩ rfl rfl ?_
      refine xgetC 39 hH ⟨u31, _, rfl⟩ rfl (by decide) (by decide) rfl rfl (by decide) (fun z36 h36 => ?_)
      refine xcallS 42 [.int _, .int _, .int _] [] hH ⟨u31, _, rfl⟩ rfl rfl rfl rfl rfl (k_rotL hws ml hb (by omega) hK hV (fun z39 h39 => ⟨_, rfl, ?_⟩))
      rw [em2] at h39
      refine xist2 44 ⟨u31, _, rfl⟩ rfl rfl ?_
      refine xinc 47 (1) ⟨u31, _, rfl⟩ rfl rfl rfl (by decide) (by omega) (by omega) (fun z44 h44 => ?_)
      refine xgoto ⟨u31, _, rfl⟩ ?_
      refine ih (i + 1) _ _ _ _ w2 (fun u => ?_) h39 (by omega) (by omega)
      rw [Nat.testBit_or, Nat.testBit_two_pow, Bool.or_eq_true, hm u, decide_eq_true_iff]
      constructor
      · rintro (⟨j, j1, j2⟩ | e)
        · exact ⟨j, by omega, j2⟩
        · exact ⟨i, by omega, e⟩
      · rintro ⟨j, j1, j2⟩
        by_cases g : j = i
        · subst g; exact Or.inr j2
        · exact Or.inl ⟨j, by omega, j2⟩
theorem k_31E {d V t K : Nat} {T : sT} {hp : amH} {R : xQ} {a b : Int32} (hH : bHk 84 bTT hp) (hB : bdOk hp 3 V T) (hL : lsN hp 3 T 225) (ha : a.toInt = (t : Int)) (hb : b.toInt = (K : Int)) (hK : K ≤ V) (hk : tkV V (K % V) T = 1) (ht : t < (trL T 225).length)
    (hR : ∀ (z : Int64) (m : Nat), z.toInt = (m : Int) → (∀ u, m.testBit u = true ↔ ∃ i, i < V ∧ oI V (K % V) T t i = u) → R (.inl (some (.long z))) hp) : xK (d + 4) 31 [.ref 3, .int a, .int b] hp R := by
  have hT := hB.2.1
  have hV := hT.2.1
  have hV3 := hT.1
  obtain ⟨x, y, z, q1, q2, q3, q4, q5⟩ := mN_p hT ht
  have e0 : oQ V (K % V) 0 = 0 := by unfold oQ; rw [Nat.zero_mul, Nat.zero_mod]
  have er : rotN V (oQ V (K % V) 0) (mN T t) = mN T t := by rw [e0, q1, rot_t hV (by omega) (by omega) (by omega) q4, tn_0 (by omega), tn_0 (by omega), tn_0 q4]
  refine xin (M := am_m31) rfl rfl rfl ?_
  refine xlcst 1 (0) ⟨u31, _, rfl⟩ rfl (by decide) (fun z0 h0 => ?_)
  refine xlst 2 ⟨u31, _, rfl⟩ rfl rfl ?_
  refine xald 3 ⟨u31, _, rfl⟩ rfl rfl ?_
  refine xild 4 ⟨u31, _, rfl⟩ rfl rfl ?_
  refine xcallC 7 (o := 3) [.int _] [] hH ⟨u31, _, rfl⟩ rfl rfl (by decide) rfl (by decide) rfl ⟨rfl, rfl, rfl, rfl⟩ rfl (k_setL hH hL (t := t) ha ht (fun z4 h4 => ⟨_, rfl, ?_⟩))
  refine xist2 9 ⟨u31, _, rfl⟩ rfl rfl ?_
  refine xcst 10 (0) ⟨u31, _, rfl⟩ rfl (by decide) (fun z9 h9 => ?_)
  refine xist2 12 ⟨u31, _, rfl⟩ rfl rfl ?_
  exact l31E hH hB hL hb hK hk ht hR V 0 0 _ _ _ (by omega) (fun u => ⟨fun z => (by rw [Nat.zero_testBit] at z; cases z), fun ⟨j, j1, _⟩ => absurd j1 (Nat.not_lt_zero j)⟩) (by rw [er]; exact h4) (by omega) (by omega)
theorem lk_s {V : Nat} {T : sT} (hT : sOk V T) : lkV V T ≤ V ∧ tkV V (lkV V T % V) T = 1 := by
  have h3 := hT.1
  have a := lkF_in (V := V) (T := T) (V - 1) 1
  have l : lkV V T ≤ V := by unfold lkV; omega
  refine ⟨l, ?_⟩
  by_cases g : lkV V T = V
  · rw [g, Nat.mod_self]; exact tk_0 hT
  · rw [Nat.mod_eq_of_lt (by omega)]
    have k : ∀ f s, s + f = V → ¬ lkF V T f s = V → tkV V (lkF V T f s) T = 1 := by
      intro f
      induction f with
      | zero => intro s h1 h2; exact absurd (show lkF V T 0 s = V from h1) h2
      | succ f ih =>
        intro s h1 h2
        unfold lkF at h2 ⊢
        by_cases e : tkV V s T = 1
        · rw [if_pos e]; exact e
        · rw [if_neg e] at h2 ⊢
          exact ih (s + 1) (by omega) h2
    exact k (V - 1) 1 (by omega) g
theorem u158 : bUp 0 am_m158.1 = true := by decide +kernel
theorem l158E {d V K : Nat} {T : sT} {hp : amH} {R : xQ} {b : Int32} (hH : bHk 84 bTT hp) (hB : bdOk hp 3 V T) (hL : lsN hp 3 T 225) (hb : b.toInt = (K : Int)) (hK : K ≤ V) (hk : tkV V (K % V) T = 1)
    (hR : ∀ z : Int32, z.toInt = ((orV V (K % V) T : Nat) : Int) → R (.inl (some (.int z))) hp) :
    ∀ (jj t m : Nat) (w : Int64) (wf wt : Int32), w.toInt = (m : Int) → (∀ u, m.testBit u = true ↔ ∃ s, s < t ∧ oB V (K % V) T s = true ∧ ∃ i, i < V ∧ oI V (K % V) T s i = u) → wf.toInt = ((sm (fun t => iv (oB V (K % V) T t = true)) t : Nat) : Int) → wf.toInt ≤ (t : Int) → wt.toInt = (t : Int) → t + jj = (trL T 225).length → xV (d + 5) am_m158 16 [some (.ref 0), some (.int b), some (.long w), none, some (.int wf), some (.int wt)] [] hp R := by
  have hT := hB.2.1
  have b0 : rN hp 3 0 = (V : Int) := hB.1
  have b1 : rN hp 3 1 = (((trL T 225).length : Nat) : Int) := hL.1
  have hV := hT.2.1
  have hV3 := hT.1
  have l35 := trL_35 hT 225
  have hkk : K % V < V := Nat.mod_lt _ (by omega)
  intro jj
  induction jj with
  | zero =>
    intro t m w wf wt hw hm hf hf2 hwt hj
    obtain rfl : t = (trL T 225).length := by omega
    refine xild2 18 ⟨u158, _, rfl⟩ rfl rfl ?_
    refine xald 19 ⟨u158, _, rfl⟩ rfl rfl ?_
    refine xgetD 22 (3) hH ⟨u158, _, rfl⟩ rfl (by decide) (by decide) rfl rfl (by decide) ?_
    refine xgetC 25 hH ⟨u158, _, rfl⟩ rfl (by decide) (by decide) rfl rfl (by decide) (fun z22 h22 => ?_)
    refine xcmp_ge 28 ⟨u158, _, rfl⟩ rfl (fun c25 => ?_) (fun c25 => ?_)
    · refine xild2 63 ⟨u158, _, rfl⟩ rfl rfl ?_
      exact xret ⟨u158, _, rfl⟩ rfl (hR _ hf)
    · omega
  | succ jj ih =>
    intro t m w wf wt hw hm hf hf2 hwt hj
    have ht : t < (trL T 225).length := by omega
    have on := oB_n hT hkk hk ht
    have es : sm (fun t => iv (oB V (K % V) T t = true)) (t + 1) = sm (fun t => iv (oB V (K % V) T t = true)) t + iv (oB V (K % V) T t = true) := rfl
    refine xild2 18 ⟨u158, _, rfl⟩ rfl rfl ?_
    refine xald 19 ⟨u158, _, rfl⟩ rfl rfl ?_
    refine xgetD 22 (3) hH ⟨u158, _, rfl⟩ rfl (by decide) (by decide) rfl rfl (by decide) ?_
    refine xgetC 25 hH ⟨u158, _, rfl⟩ rfl (by decide) (by decide) rfl rfl (by decide) (fun z22 h22 => ?_)
    refine xcmp_ge 28 ⟨u158, _, rfl⟩ rfl (fun c25 => ?_) (fun c25 => ?_)
    · omega
    · refine xlld 29 ⟨u158, _, rfl⟩ rfl rfl ?_
      refine xild2 31 ⟨u158, _, rfl⟩ rfl rfl ?_
      refine xlshr 32 ⟨u158, _, rfl⟩ rfl ?_
      refine xlcst 33 (1) ⟨u158, _, rfl⟩ rfl (by decide) (fun z32 h32 => ?_)
      refine xland 34 ⟨u158, _, rfl⟩ rfl ?_
      refine xlcst 35 (0) ⟨u158, _, rfl⟩ rfl (by decide) (fun z34 h34 => ?_)
      have w1 := j_shr hw hwt (by omega)
      have w2 := j_and w1 (b := 1) h32
      rw [bit_1] at w2
      refine xlcmp 36 ⟨u158, _, rfl⟩ rfl (fun z35 h35 => ?_)
      refine xif_ne 39 ⟨u158, _, rfl⟩ rfl (fun c36 => ?_) (fun c36 => ?_)
      · have bt : m.testBit t = true := by
          cases e : m.testBit t with
          | true => rfl
          | false => rw [e, show Bool.toNat false = 0 from rfl] at w2; omega
        have nb : ¬ oB V (K % V) T t = true := on.mpr ((hm t).mp bt)
        rw [iv_f nb] at es
        refine xinc 58 (1) ⟨u158, _, rfl⟩ rfl rfl rfl (by decide) (by omega) (by omega) (fun z55 h55 => ?_)
        refine xgoto ⟨u158, _, rfl⟩ ?_
        refine ih (t + 1) m _ _ _ hw (fun u => ?_) (by rw [es]; omega) (by omega) (by omega) (by omega)
        rw [hm u]
        constructor
        · rintro ⟨s, s1, s2, s3⟩
          exact ⟨s, by omega, s2, s3⟩
        · rintro ⟨s, s1, s2, s3⟩
          by_cases g : s = t
          · subst g; exact absurd s2 nb
          · exact ⟨s, by omega, s2, s3⟩
      · have bt : ¬ m.testBit t = true := fun e => by
          rw [e, show Bool.toNat true = 1 from rfl] at w2
          omega
        have yb : oB V (K % V) T t = true := Classical.byContradiction (fun z => bt ((hm t).mpr (on.mp z)))
        rw [iv_t yb] at es
        refine xlld 40 ⟨u158, _, rfl⟩ rfl rfl ?_
        refine xald 41 ⟨u158, _, rfl⟩ rfl rfl ?_
        refine xgetD 44 (3) hH ⟨u158, _, rfl⟩ rfl (by decide) (by decide) rfl rfl (by decide) ?_
        refine xild2 46 ⟨u158, _, rfl⟩ rfl rfl ?_
        refine xild 47 ⟨u158, _, rfl⟩ rfl rfl ?_
        refine xcallC 50 (o := 3) [.int _, .int _] [.long _] hH ⟨u158, _, rfl⟩ rfl rfl (by decide) rfl (by decide) rfl ⟨rfl, rfl, rfl, rfl⟩ rfl (k_31E hH hB hL hwt hb hK hk ht (fun z47 m47 h47 g47 => ⟨_, rfl, ?_⟩))
        have w3 := j_or hw h47
        refine xlor 51 ⟨u158, _, rfl⟩ rfl ?_
        refine xlst 52 ⟨u158, _, rfl⟩ rfl rfl ?_
        refine xinc 55 (1) ⟨u158, _, rfl⟩ rfl rfl rfl (by decide) (by omega) (by omega) (fun z52 h52 => ?_)
        refine xinc 58 (1) ⟨u158, _, rfl⟩ rfl rfl rfl (by decide) (by omega) (by omega) (fun z55 h55 => ?_)
        refine xgoto ⟨u158, _, rfl⟩ ?_
        refine ih (t + 1) _ _ _ _ w3 (fun u => ?_) (by rw [es]; omega) (by omega) (by omega) (by omega)
        rw [Nat.testBit_or, Bool.or_eq_true, hm u, g47 u]
        constructor
        · rintro (⟨s, s1, s2, s3⟩ | e)
          · exact ⟨s, by omega, s2, s3⟩
          · exact ⟨t, by omega, yb, e⟩
        · rintro ⟨s, s1, s2, s3⟩
          by_cases g : s = t
          · subst g; exact Or.inr s3
          · exact Or.inl ⟨s, by omega, s2, s3⟩
theorem k_158E {d V n : Nat} {h : Nat → sR} {sv : Option sR} {T : sT} {ty : Nat → Int} {hp : amH} {R : xQ} (hH : bHk 84 bTT hp) (hS : clS hp (V, T, ty) n h sv)
    (hR : ∀ (z : Int32) hp1, bHk 84 bTT hp1 → cF hp hp1 → clS hp1 (V, T, ty) n h sv → z.toInt = ((orV V (lkV V T % V) T : Nat) : Int) → R (.inl (some (.int z))) hp1) : xK (d + 5) 158 [.ref 0] hp R := by
  have hB : bdOk hp 3 V T := hS.1
  have b0 : rN hp 3 0 = (V : Int) := hB.1
  have hL : lsN hp 3 T 225 := hS.2.1
  have b1 : rN hp 3 1 = (((trL T 225).length : Nat) : Int) := hL.1
  have hT0 : sOk V T := hB.2.1
  have h15 : V ≤ 15 := hT0.2.1
  have l35 : (trL T 225).length ≤ 35 := trL_35 hT0 225
  have lk := lk_s hT0
  refine xin (M := am_m158) rfl rfl rfl ?_
  refine xald 1 ⟨u158, _, rfl⟩ rfl rfl ?_
  refine xgetD 4 (3) hH ⟨u158, _, rfl⟩ rfl (by decide) (by decide) rfl rfl (by decide) ?_
  refine xcallC 7 (o := 3) [] [] hH ⟨u158, _, rfl⟩ rfl rfl (by decide) rfl (by decide) rfl ⟨rfl, rfl, rfl, rfl⟩ rfl (k_30E hH hB hL (fun z4 h4 => ⟨_, rfl, ?_⟩))
  refine xist 8 ⟨u158, _, rfl⟩ rfl rfl ?_
  refine xlcst 9 (0) ⟨u158, _, rfl⟩ rfl (by decide) (fun z8 h8 => ?_)
  refine xlst 10 ⟨u158, _, rfl⟩ rfl rfl ?_
  refine xcst 11 (0) ⟨u158, _, rfl⟩ rfl (by decide) (fun z10 h10 => ?_)
  refine xist2 13 ⟨u158, _, rfl⟩ rfl rfl ?_
  refine xcst 14 (0) ⟨u158, _, rfl⟩ rfl (by decide) (fun z13 h13 => ?_)
  refine xist2 16 ⟨u158, _, rfl⟩ rfl rfl ?_
  exact l158E (K := lkV V T) hH hB hL h4 lk.1 lk.2 (fun z e => hR z hp hH cF.refl hS e) (trL T 225).length 0 0 _ _ _ (by omega) (fun u => ⟨fun z => (by rw [Nat.zero_testBit] at z; cases z), fun ⟨s, s1, _⟩ => absurd s1 (Nat.not_lt_zero s)⟩) (by rw [h10]; rfl) (by omega) (by omega) (by omega)
theorem l324E {d V t k x y z : Nat} {T : sT} {hp : amH} {R : xQ} {a b : Int32} (hH : bHk 84 bTT hp) (hP : P0 hp) (hB : rdOk hp V T) (hL : rlN hp T 225) (ha : a.toInt = (t : Int)) (hb : b.toInt = (k : Int)) (hkk : k < V) (hk : tkV V k T = 1) (ht : t < (trL T 225).length) (q1 : mN T t = m3 x y z) (q2 : x < y) (q3 : y < z) (q4 : z < V)
    (hR : ∀ r : Int32, r.toInt = ((iv (oB V k T t = true) : Nat) : Int) → R (.inl (some (.int r))) hp) :
    ∀ (jj n : Nat) (wx wy wz wn : Int32), wx.toInt = ((tn V (oQ V k n) x : Nat) : Int) → wy.toInt = ((tn V (oQ V k n) y : Nat) : Int) → wz.toInt = ((tn V (oQ V k n) z : Nat) : Int) → wn.toInt = (n : Int) → n + jj = V → (∀ i, i < n → t ≤ oI V k T t (i + 1)) → xV (d + 2) am_m324 26 [some (.ref 66), some (.int a), some (.int b), some (.int wx), some (.int wy), some (.int wz), some (.int wn)] [] hp R := by
  have hT := hB.2.1
  have b0 : rN hp 67 0 = (V : Int) := hB.1
  have hV := hT.2.1
  have l35 := trL_35 hT 225
  intro jj
  induction jj with
  | zero =>
    intro n wx wy wz wn hx hy hz hwn hj hi
    obtain rfl : n = V := by omega
    have yb : oB n k T t = true := oB_t.mpr hi
    refine xild2 28 ⟨u324, _, rfl⟩ rfl rfl ?_
    refine xald 29 ⟨u324, _, rfl⟩ rfl rfl ?_
    refine xcall 32 [.ref 66] [.int _] hH ⟨u324, _, rfl⟩ rfl rfl rfl rfl rfl (k_points hH (fun z29 h29 => ⟨_, rfl, ?_⟩))
    refine xcmp_ge 35 ⟨u324, _, rfl⟩ rfl (fun c32 => ?_) (fun c32 => ?_)
    · refine xcst 90 (1) ⟨u324, _, rfl⟩ rfl (by decide) (fun z89 h89 => ?_)
      exact xretB ⟨u324, _, rfl⟩ rfl (by omega) (hR _ (by rw [iv_t yb]; exact h89))
    · omega
  | succ jj ih =>
    intro n wx wy wz wn hx hy hz hwn hj hi
    obtain ⟨o1, o2, o3⟩ := oI_s hT hkk hk ht (n + 1)
    have hq : oQ V k (n + 1) < V := oQ_lt (by omega)
    rw [q1, rot_t hV hq (by omega) (by omega) q4] at o1
    have l : ∀ i p, tn V (oQ V k i) p < V := fun i p => Nat.mod_lt _ (by omega)
    have lx := l (n + 1) x
    have ly := l (n + 1) y
    have lz := l (n + 1) z
    refine xild2 28 ⟨u324, _, rfl⟩ rfl rfl ?_
    refine xald 29 ⟨u324, _, rfl⟩ rfl rfl ?_
    refine xcall 32 [.ref 66] [.int _] hH ⟨u324, _, rfl⟩ rfl rfl rfl rfl rfl (k_points hH (fun z29 h29 => ⟨_, rfl, ?_⟩))
    refine xcmp_ge 35 ⟨u324, _, rfl⟩ rfl (fun c32 => ?_) (fun c32 => ?_)
    · omega
    · refine xald 36 ⟨u324, _, rfl⟩ rfl rfl ?_
      refine xild 37 ⟨u324, _, rfl⟩ rfl rfl ?_
      refine xild 38 ⟨u324, _, rfl⟩ rfl rfl ?_
      refine xcall 41 [.ref 66, .int _, .int _] [] hH ⟨u324, _, rfl⟩ rfl rfl rfl rfl rfl (k_rtrn hH hP hB (x := tn V (oQ V k n) x) (k := k) hx hb (l _ _) hkk (fun z38 h38 => ⟨_, rfl, ?_⟩))
      have h38 : z38.toInt = ((tn V (oQ V k (n + 1)) x : Nat) : Int) := by rw [← tn_s]; exact h38
      refine xist 42 ⟨u324, _, rfl⟩ rfl rfl ?_
      refine xald 43 ⟨u324, _, rfl⟩ rfl rfl ?_
      refine xild2 45 ⟨u324, _, rfl⟩ rfl rfl ?_
      refine xild 46 ⟨u324, _, rfl⟩ rfl rfl ?_
      refine xcall 49 [.ref 66, .int _, .int _] [] hH ⟨u324, _, rfl⟩ rfl rfl rfl rfl rfl (k_rtrn hH hP hB (x := tn V (oQ V k n) y) (k := k) hy hb (l _ _) hkk (fun z46 h46 => ⟨_, rfl, ?_⟩))
      have h46 : z46.toInt = ((tn V (oQ V k (n + 1)) y : Nat) : Int) := by rw [← tn_s]; exact h46
      refine xist2 51 ⟨u324, _, rfl⟩ rfl rfl ?_
      refine xald 52 ⟨u324, _, rfl⟩ rfl rfl ?_
      refine xild2 54 ⟨u324, _, rfl⟩ rfl rfl ?_
      refine xild 55 ⟨u324, _, rfl⟩ rfl rfl ?_
      refine xcall 58 [.ref 66, .int _, .int _] [] hH ⟨u324, _, rfl⟩ rfl rfl rfl rfl rfl (k_rtrn hH hP hB (x := tn V (oQ V k n) z) (k := k) hz hb (l _ _) hkk (fun z55 h55 => ⟨_, rfl, ?_⟩))
      have h55 : z55.toInt = ((tn V (oQ V k (n + 1)) z : Nat) : Int) := by rw [← tn_s]; exact h55
      refine xist2 60 ⟨u324, _, rfl⟩ rfl rfl ?_
      refine xald 61 ⟨u324, _, rfl⟩ rfl rfl ?_
      refine xcst 62 (1) ⟨u324, _, rfl⟩ rfl (by decide) (fun z61 h61 => ?_)
      refine xild 63 ⟨u324, _, rfl⟩ rfl rfl ?_
      refine xshl 64 ⟨u324, _, rfl⟩ rfl ?_
      refine xcst 65 (1) ⟨u324, _, rfl⟩ rfl (by decide) (fun z64 h64 => ?_)
      refine xild2 67 ⟨u324, _, rfl⟩ rfl rfl ?_
      refine xshl 68 ⟨u324, _, rfl⟩ rfl ?_
      refine xor_ 69 ⟨u324, _, rfl⟩ rfl ?_
      refine xcst 70 (1) ⟨u324, _, rfl⟩ rfl (by decide) (fun z69 h69 => ?_)
      refine xild2 72 ⟨u324, _, rfl⟩ rfl rfl ?_
      refine xshl 73 ⟨u324, _, rfl⟩ rfl ?_
      refine xor_ 74 ⟨u324, _, rfl⟩ rfl ?_
      have e1 := i_shl h61 (n := tn V (oQ V k (n + 1)) x) h38 (by omega)
      have e2 := i_shl h64 (n := tn V (oQ V k (n + 1)) y) h46 (by omega)
      have e3 := i_or e1.1 e2.1 e1.2 e2.2
      have e4 := i_shl h69 (n := tn V (oQ V k (n + 1)) z) h55 (by omega)
      have e5 := i_or e3.1 e4.1 e3.2 e4.2
      refine xcall 77 [.ref 66, .int _] [] hH ⟨u324, _, rfl⟩ rfl rfl rfl rfl rfl (k_rnof hH hB hL (m := m3 (tn V (oQ V k (n + 1)) x) (tn V (oQ V k (n + 1)) y) (tn V (oQ V k (n + 1)) z)) e5.1 (fun z74 h74 => ⟨_, rfl, ?_⟩))
      rw [o1] at h74
      refine xild 78 ⟨u324, _, rfl⟩ rfl rfl ?_
      refine xcmp_ge 81 ⟨u324, _, rfl⟩ rfl (fun c78 => ?_) (fun c78 => ?_)
      · refine xinc 86 (1) ⟨u324, _, rfl⟩ rfl rfl rfl (by decide) (by omega) (by omega) (fun z83 h83 => ?_)
        refine xgoto ⟨u324, _, rfl⟩ ?_
        exact ih (n + 1) _ _ _ _ h38 h46 h55 (by omega) (by omega) (fun i hi2 => by
          by_cases g : i = n
          · subst g; omega
          · exact hi i (by omega))
      · refine xcst 82 (0) ⟨u324, _, rfl⟩ rfl (by decide) (fun z81 h81 => ?_)
        exact xretB ⟨u324, _, rfl⟩ rfl (by omega) (hR _ (by
          have nb : ¬ oB V k T t = true := fun w => by have := oB_t.mp w n (by omega); omega
          rw [iv_f nb]; exact h81))
theorem k_324E {d V t k : Nat} {T : sT} {hp : amH} {R : xQ} {a b : Int32} (hH : bHk 84 bTT hp) (hP : P0 hp) (hB : rdOk hp V T) (hL : rlN hp T 225) (ha : a.toInt = (t : Int)) (hb : b.toInt = (k : Int)) (hkk : k < V) (hk : tkV V k T = 1) (ht : t < (trL T 225).length)
    (hR : ∀ r : Int32, r.toInt = ((iv (oB V k T t = true) : Nat) : Int) → R (.inl (some (.int r))) hp) : xK (d + 2) 324 [.ref 66, .int a, .int b] hp R := by
  have hT := hB.2.1
  have l35 := trL_35 hT 225
  obtain ⟨x, y, z, q1, q2, q3, q4, q5⟩ := mN_p hT ht
  obtain ⟨o1, o2, o3⟩ := rl_at hT hL ht q1 q2 q3
  have e0 : oQ V k 0 = 0 := by unfold oQ; rw [Nat.zero_mul, Nat.zero_mod]
  have et : a.toInt.toNat = t := by omega
  refine xin (M := am_m324) rfl rfl rfl ?_
  refine xald 1 ⟨u324, _, rfl⟩ rfl rfl ?_
  refine xgetR 4 72 hH ⟨u324, _, rfl⟩ rfl rfl ?_
  refine xild 5 ⟨u324, _, rfl⟩ rfl rfl ?_
  refine xiald 6 (a).toInt.toNat hH ⟨u324, _, rfl⟩ rfl (by decide) rfl (by omega) (by omega) (fun z5 h5 => ?_)
  refine xist 7 ⟨u324, _, rfl⟩ rfl rfl ?_
  refine xald 8 ⟨u324, _, rfl⟩ rfl rfl ?_
  refine xgetR 11 73 hH ⟨u324, _, rfl⟩ rfl rfl ?_
  refine xild 12 ⟨u324, _, rfl⟩ rfl rfl ?_
  refine xiald 13 (a).toInt.toNat hH ⟨u324, _, rfl⟩ rfl (by decide) rfl (by omega) (by omega) (fun z12 h12 => ?_)
  refine xist2 15 ⟨u324, _, rfl⟩ rfl rfl ?_
  refine xald 16 ⟨u324, _, rfl⟩ rfl rfl ?_
  refine xgetR 19 74 hH ⟨u324, _, rfl⟩ rfl rfl ?_
  refine xild 20 ⟨u324, _, rfl⟩ rfl rfl ?_
  refine xiald 21 (a).toInt.toNat hH ⟨u324, _, rfl⟩ rfl (by decide) rfl (by omega) (by omega) (fun z20 h20 => ?_)
  refine xist2 23 ⟨u324, _, rfl⟩ rfl rfl ?_
  refine xcst 24 (0) ⟨u324, _, rfl⟩ rfl (by decide) (fun z23 h23 => ?_)
  refine xist2 26 ⟨u324, _, rfl⟩ rfl rfl ?_
  exact l324E hH hP hB hL ha hb hkk hk ht q1 q2 q3 q4 hR V 0 _ _ _ _ (by rw [e0, tn_0 (by omega), h5, et]; exact o1) (by rw [e0, tn_0 (by omega), h12, et]; exact o2) (by rw [e0, tn_0 q4, h20, et]; exact o3) (by omega) (by omega) (fun i hi => absurd hi (Nat.not_lt_zero i))
theorem l323E {d V k : Nat} {T : sT} {hp : amH} {R : xQ} {b : Int32} (hH : bHk 84 bTT hp) (hP : P0 hp) (hB : rdOk hp V T) (hL : rlN hp T 225) (hb : b.toInt = (k : Int)) (hkk : k < V) (hk : tkV V k T = 1)
    (hR : ∀ z : Int32, z.toInt = ((orV V k T : Nat) : Int) → R (.inl (some (.int z))) hp) :
    ∀ (jj t : Nat) (wf wt : Int32), wf.toInt = ((sm (fun t => iv (oB V k T t = true)) t : Nat) : Int) → wf.toInt ≤ (t : Int) → wt.toInt = (t : Int) → t + jj = (trL T 225).length → xV (d + 3) am_m323 19 [some (.ref 66), some (.int b), some (.int wf), some (.int wt)] [] hp R := by
  have hT := hB.2.1
  have b1 : rN hp 66 12 = (((trL T 225).length : Nat) : Int) := hL.1
  have l35 := trL_35 hT 225
  intro jj
  induction jj with
  | zero =>
    intro t wf wt hf hf2 hwt hj
    obtain rfl : t = (trL T 225).length := by omega
    refine xild 20 ⟨u323, _, rfl⟩ rfl rfl ?_
    refine xald 21 ⟨u323, _, rfl⟩ rfl rfl ?_
    refine xgetI 24 hH ⟨u323, _, rfl⟩ rfl rfl (fun z21 h21 => ?_)
    refine xcmp_ge 27 ⟨u323, _, rfl⟩ rfl (fun c24 => ?_) (fun c24 => ?_)
    · refine xild 51 ⟨u323, _, rfl⟩ rfl rfl ?_
      exact xret ⟨u323, _, rfl⟩ rfl (hR _ hf)
    · omega
  | succ jj ih =>
    intro t wf wt hf hf2 hwt hj
    have ht : t < (trL T 225).length := by omega
    have es : sm (fun t => iv (oB V k T t = true)) (t + 1) = sm (fun t => iv (oB V k T t = true)) t + iv (oB V k T t = true) := rfl
    have ei : iv (oB V k T t = true) ≤ 1 := iv_le
    refine xild 20 ⟨u323, _, rfl⟩ rfl rfl ?_
    refine xald 21 ⟨u323, _, rfl⟩ rfl rfl ?_
    refine xgetI 24 hH ⟨u323, _, rfl⟩ rfl rfl (fun z21 h21 => ?_)
    refine xcmp_ge 27 ⟨u323, _, rfl⟩ rfl (fun c24 => ?_) (fun c24 => ?_)
    · omega
    · refine xild 28 ⟨u323, _, rfl⟩ rfl rfl ?_
      refine xald 29 ⟨u323, _, rfl⟩ rfl rfl ?_
      refine xild 30 ⟨u323, _, rfl⟩ rfl rfl ?_
      refine xild 31 ⟨u323, _, rfl⟩ rfl rfl ?_
      refine xcall 34 [.ref 66, .int _, .int _] [.int _] hH ⟨u323, _, rfl⟩ rfl rfl rfl rfl rfl (k_324E hH hP hB hL hwt hb hkk hk ht (fun z31 h31 => ⟨_, rfl, ?_⟩))
      refine xif_eq 37 ⟨u323, _, rfl⟩ rfl (fun c34 => ?_) (fun c34 => ?_)
      · refine xcst 42 (0) ⟨u323, _, rfl⟩ rfl (by decide) (fun z41 h41 => ?_)
        refine xadd 43 _ ⟨u323, _, rfl⟩ rfl rfl (by omega) (by omega) (fun z42 h42 => ?_)
        refine xist 44 ⟨u323, _, rfl⟩ rfl rfl ?_
        refine xinc 47 (1) ⟨u323, _, rfl⟩ rfl rfl rfl (by decide) (by omega) (by omega) (fun z44 h44 => ?_)
        refine xgoto ⟨u323, _, rfl⟩ ?_
        exact ih (t + 1) _ _ (by rw [es]; omega) (by omega) (by omega) (by omega)
      · refine xcst 38 (1) ⟨u323, _, rfl⟩ rfl (by decide) (fun z37 h37 => ?_)
        refine xgoto ⟨u323, _, rfl⟩ ?_
        refine xadd 43 _ ⟨u323, _, rfl⟩ rfl rfl (by omega) (by omega) (fun z42 h42 => ?_)
        refine xist 44 ⟨u323, _, rfl⟩ rfl rfl ?_
        refine xinc 47 (1) ⟨u323, _, rfl⟩ rfl rfl rfl (by decide) (by omega) (by omega) (fun z44 h44 => ?_)
        refine xgoto ⟨u323, _, rfl⟩ ?_
        exact ih (t + 1) _ _ (by rw [es]; omega) (by omega) (by omega) (by omega)
theorem k_323E {d V n : Nat} {h : Nat → sR} {sv : Option sR} {T : sT} {ty : Nat → Int} {hp : amH} {R : xQ} (hH : bHk 84 bTT hp) (hP : P0 hp) (hS : rfS hp (V, T, ty) n h sv)
    (hR : ∀ (z : Int32) hp1, bHk 84 bTT hp1 → P0 hp1 → bFr wM hp hp1 → rfS hp1 (V, T, ty) n h sv → z.toInt = ((orV V (lkV V T % V) T : Nat) : Int) → R (.inl (some (.int z))) hp1) : xK (d + 5) 323 [.ref 66] hp R := by
  have hB : rdOk hp V T := rowOk_rd hS.1
  have b0 : rN hp 67 0 = (V : Int) := hB.1
  have hT0 : sOk V T := hB.2.1
  have h15 : V ≤ 15 := hT0.2.1
  have l35 : (trL T 225).length ≤ 35 := trL_35 hT0 225
  have lk := lk_s hT0
  refine xin (M := am_m323) rfl rfl rfl ?_
  refine xald 1 ⟨u323, _, rfl⟩ rfl rfl ?_
  refine xcst 2 (0) ⟨u323, _, rfl⟩ rfl (by decide) (fun z1 h1 => ?_)
  refine xputI 5 hH ⟨u323, _, rfl⟩ rfl rfl ⟨rfl, rfl⟩ (by omega) (by omega) (fun hp2 hH2 U2 => ?_)
  have s2 := U2.1
  have S2 := rfS_W (W := [(66, 7)]) hS (rU_fr U2 rfl) (fun _ => rfl) rfl rfl (fun _ => rfl) (fun _ => rfl)
  have P2 := P0_W (W := [(66, 7)]) (by decide) (rU_fr U2 rfl) hP
  have B2 := rowOk_rd S2.1
  refine xald 6 ⟨u323, _, rfl⟩ rfl rfl ?_
  refine xcall 9 [.ref 66] [] hH2 ⟨u323, _, rfl⟩ rfl rfl rfl rfl rfl (k_236E hH2 P2 B2 (fun z6 hp6 hH6 F6 B6 L6 h6 => ⟨_, rfl, ?_⟩))
  have P6 := P0_W (W := bLT) (by decide) F6 P2
  have b6 : rN hp6 67 0 = (V : Int) := B6.1
  refine xald 10 ⟨u323, _, rfl⟩ rfl rfl ?_
  refine xcall 13 [.ref 66] [.int _] hH6 ⟨u323, _, rfl⟩ rfl rfl rfl rfl rfl (k_points hH6 (fun z10 h10 => ⟨_, rfl, ?_⟩))
  refine xrem 14 (_) ⟨u323, _, rfl⟩ rfl (by omega) (by omega) (rfl) (fun z13 h13 => ?_)
  have b6 : rN hp6 67 0 = (V : Int) := B6.1
  have e13 : z13.toInt = ((lkV V T % V : Nat) : Int) := by rw [h13, h6, h10, b6]; exact (Int.natCast_emod _ _).symm
  refine xist 15 ⟨u323, _, rfl⟩ rfl rfl ?_
  refine xcst 16 (0) ⟨u323, _, rfl⟩ rfl (by decide) (fun z15 h15 => ?_)
  refine xist 17 ⟨u323, _, rfl⟩ rfl rfl ?_
  refine xcst 18 (0) ⟨u323, _, rfl⟩ rfl (by decide) (fun z17 h17 => ?_)
  refine xist 19 ⟨u323, _, rfl⟩ rfl rfl ?_
  exact l323E (k := lkV V T % V) hH6 P6 B6 L6 e13 (Nat.mod_lt _ (by omega)) lk.2 (fun z e => hR z hp6 hH6 P6 ((rU_fr U2 (by decide)).trans (bFr_sub F6 (by decide))) (rfS_W S2 F6 (fun _ => rfl) rfl rfl (fun _ => rfl) (fun _ => rfl)) e) (trL T 225).length 0 _ _ (by rw [h15]; rfl) (by omega) (by omega) (by omega)
