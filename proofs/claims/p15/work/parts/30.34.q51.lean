/-! ===== closure on both sides ===== -/
theorem sm_lt {f g : Nat → Nat} {n k : Nat} (h : ∀ i, i < n → f i ≤ g i) (hk : k < n) (h2 : f k < g k) : sm f n < sm g n := by
  have a : sm (fun i => f i + (if i = k then 1 else 0)) n = sm f n + sm (fun i => if i = k then 1 else 0) n := sm_add f (fun i => if i = k then 1 else 0) n
  have b : sm (fun i => if i = k then 1 else 0) n = 1 := sm_one hk (if_pos rfl) (fun i _ g => if_neg g)
  have c : sm (fun i => f i + (if i = k then 1 else 0)) n ≤ sm g n := sm_le n (fun i hi => by
    by_cases e : i = k
    · subst e; rw [if_pos rfl]; omega
    · rw [if_neg e]; have := h i hi; omega)
  omega
theorem pq_b {m : Nat} : pq m = sm (fun j => iv (m.testBit j = true)) 15 := pq_iv (fun _ _ => Iff.rfl)
theorem pq_lt {m n k : Nat} (h : ∀ i, m.testBit i = true → n.testBit i = true) (hk : k < 15) (h1 : ¬ m.testBit k = true) (h2 : n.testBit k = true) : pq m < pq n := by
  rw [pq_b, pq_b]
  refine sm_lt (k := k) (fun i _ => ?_) hk ?_
  · by_cases g : m.testBit i = true
    · rw [iv_t g, iv_t (h i g)]; exact Nat.le_refl _
    · rw [iv_f g]; exact Nat.zero_le _
  · rw [iv_f h1, iv_t h2]; exact Nat.zero_lt_one
theorem pq_le {m n : Nat} (h : ∀ i, m.testBit i = true → n.testBit i = true) : pq m ≤ pq n := by
  rw [pq_b, pq_b]
  refine sm_le 15 (fun i _ => ?_)
  by_cases g : m.testBit i = true
  · rw [iv_t g, iv_t (h i g)]; exact Nat.le_refl _
  · rw [iv_f g]; exact Nat.zero_le _
theorem full_t {i : Nat} : (32767 : Nat).testBit i = decide (i < 15) := Nat.testBit_two_pow_sub_one 15 i
theorem sub_full {m : Nat} (h : m < 32768) {i : Nat} (g : m.testBit i = true) : i < 15 := by
  apply Classical.byContradiction
  intro w
  rw [Nat.testBit_lt_two_pow (Nat.lt_of_lt_of_le h (Nat.pow_le_pow_right (by decide) (by omega) : 2 ^ 15 ≤ 2 ^ i))] at g
  cases g
theorem pq_15 {m : Nat} (h : m < 32768) : pq m ≤ 15 := by
  have a : pq m ≤ pq 32767 := pq_le (fun i g => by rw [full_t]; exact decide_eq_true (sub_full h g))
  have b : pq 32767 = 15 := by decide
  omega
theorem pq_all {m : Nat} (h : m < 32768) (g : 15 ≤ pq m) {i : Nat} (hi : i < 15) : m.testBit i = true := by
  apply Classical.byContradiction
  intro w
  have a : pq m < pq 32767 := pq_lt (k := i) (fun j g => by rw [full_t]; exact decide_eq_true (sub_full h g)) hi w (by rw [full_t]; exact decide_eq_true hi)
  have b : pq 32767 = 15 := by decide
  omega
/-- how many of three points a set has -/
theorem bc_3t {m x y z : Nat} (hx : x < 15) (hy : y < 15) (hz : z < 15) (hxy : ¬ x = y) (hyz : ¬ y = z) (hxz : ¬ x = z) : bcN (m3 x y z &&& m) = ((iv (m.testBit x = true) + iv (m.testBit y = true) + iv (m.testBit z = true) : Nat) : Int) := by
  have ml : m3 x y z &&& m < 32768 := by
    have h1 : m3 x y z < 2 ^ 15 := by
      unfold m3
      exact Nat.or_lt_two_pow (Nat.or_lt_two_pow (Nat.pow_lt_pow_right (by decide) hx) (Nat.pow_lt_pow_right (by decide) hy)) (Nat.pow_lt_pow_right (by decide) hz)
    exact Nat.lt_of_le_of_lt Nat.and_le_left h1
  rw [bc_pq ml, pq_b]
  congr 1
  have e : ∀ j, j < 15 → iv ((m3 x y z &&& m).testBit j = true) = (if j = x then iv (m.testBit x = true) else 0) + (if j = y then iv (m.testBit y = true) else 0) + (if j = z then iv (m.testBit z = true) else 0) := by
    intro j _
    have t : (m3 x y z &&& m).testBit j = true ↔ ((j = x ∨ j = y ∨ j = z) ∧ m.testBit j = true) := by
      rw [Nat.testBit_and, m3_test, Bool.and_eq_true, decide_eq_true_iff]
    by_cases g : j = x
    · rw [if_pos g, if_neg (fun w => hxy (g.symm.trans w)), if_neg (fun w => hxz (g.symm.trans w)), iv_eq t]
      simp only [Nat.zero_add, Nat.add_zero]
      subst g
      exact iv_eq ⟨fun w => w.2, fun w => ⟨Or.inl rfl, w⟩⟩
    · by_cases g2 : j = y
      · rw [if_neg g, if_pos g2, if_neg (fun w => hyz (g2.symm.trans w)), iv_eq t]
        simp only [Nat.zero_add, Nat.add_zero]
        subst g2
        exact iv_eq ⟨fun w => w.2, fun w => ⟨Or.inr (Or.inl rfl), w⟩⟩
      · by_cases g3 : j = z
        · rw [if_neg g, if_neg g2, if_pos g3, iv_eq t]
          simp only [Nat.zero_add, Nat.add_zero]
          subst g3
          exact iv_eq ⟨fun w => w.2, fun w => ⟨Or.inr (Or.inr rfl), w⟩⟩
        · rw [if_neg g, if_neg g2, if_neg g3]
          show _ = 0
          exact iv_f (fun w => by rcases (t.mp w).1 with p | p | p <;> contradiction)
  rw [sm_ext 15 e, sm_add, sm_add]
  have o : ∀ k c, k < 15 → sm (fun j => if j = k then c else 0) 15 = c := fun k c hk => sm_one hk (if_pos rfl) (fun i _ g => if_neg g)
  rw [o x _ hx, o y _ hy, o z _ hz]
def cSub (m n : Nat) : Prop := ∀ i, m.testBit i = true → n.testBit i = true
/-- the least closed set round a set -/
def clP (T : sT) (s r : Nat) : Prop := cSub s r ∧ clB T r (trL T 225).length ∧ ∀ x, cSub s x → clB T x (trL T 225).length → cSub r x
noncomputable def clN (T : sT) (s : Nat) : Nat := Classical.epsilon (clP T s)
theorem clN_e {T : sT} {s r : Nat} (h : clP T s r) : clN T s = r := by
  have g : clP T s (clN T s) := Classical.epsilon_spec ⟨r, h⟩
  refine Nat.eq_of_testBit_eq (fun i => ?_)
  have a := g.2.2 r h.1 h.2.1 i
  have b := h.2.2 (clN T s) g.1 g.2.1 i
  cases e : (clN T s).testBit i <;> cases f : r.testBit i
  · rfl
  · rw [b f] at e; cases e
  · rw [a e] at f; cases f
  · rfl
theorem clB_all {T : sT} {V m : Nat} (hT : sOk V T) (h : ∀ i, i < V → m.testBit i = true) : clB T m (trL T 225).length := by
  intro t ht
  obtain ⟨x, y, z, q1, q2, q3, q4, q5⟩ := mN_p hT ht
  have hV := hT.2.1
  rw [q1, bc_3t (by omega) (by omega) (by omega) (by omega) (by omega) (by omega), iv_t (h x (by omega)), iv_t (h y (by omega)), iv_t (h z q4)]
  decide
/-- a closed set with two points of a triple has the third -/
theorem clB_T {T : sT} {V m a b c : Nat} (hT : sOk V T) (h : clB T m (trL T 225).length) (e : T a b = (c : Int)) (ha : m.testBit a = true) (hb : m.testBit b = true) : m.testBit c = true := by
  obtain ⟨k, e2, k1, k2, k3, k4, k5, k6, -, -⟩ := sOk_at hT e (by omega)
  have hV := hT.2.1
  obtain rfl : c = k := by omega
  obtain ⟨t, ht, -, h3⟩ := nm_of hT e
  have em := (nm_inv h3).2
  have g := h t ht
  rw [em, bc_3t (by omega) (by omega) (by omega) k4 k6 k5, iv_t ha, iv_t hb] at g
  apply Classical.byContradiction
  intro w
  rw [iv_f w] at g
  exact g rfl
/-- closed by third points: closed -/
theorem cz_B {T : sT} {V m : Nat} (hT : sOk V T) (h : ∀ a b c : Nat, b < a → a < V → m.testBit a = true → m.testBit b = true → T a b = (c : Int) → m.testBit c = true) : clB T m (trL T 225).length := by
  intro t ht
  obtain ⟨x, y, z, q1, q2, q3, q4, q5⟩ := mN_p hT ht
  have hV := hT.2.1
  obtain ⟨k, e2, k1, k2, k3, k4, k5, k6, k7, k8⟩ := sOk_at hT q5 (by omega)
  obtain rfl : z = k := by omega
  have yx : T y x = (z : Int) := k7
  have zx : T z x = (y : Int) := by rw [sy_T hT]; exact k8
  have zy : T z y = (x : Int) := by
    obtain ⟨k', e', -, -, -, -, -, -, -, k9⟩ := sOk_at hT yx (by omega)
    obtain rfl : z = k' := by omega
    rw [sy_T hT]
    exact k9
  have hx := fun g1 g2 => h z y x (by omega) q4 g1 g2 zy
  have hy := fun g1 g2 => h z x y (by omega) q4 g1 g2 zx
  have hz := fun g1 g2 => h y x z (by omega) (by omega) g1 g2 yx
  rw [q1, bc_3t (by omega) (by omega) (by omega) k4 k6 k5]
  by_cases g1 : m.testBit x = true <;> by_cases g2 : m.testBit y = true <;> by_cases g3 : m.testBit z = true
  · rw [iv_t g1, iv_t g2, iv_t g3]; decide
  · exact absurd (hz g2 g1) g3
  · exact absurd (hy g3 g1) g2
  · rw [iv_t g1, iv_f g2, iv_f g3]; decide
  · exact absurd (hx g3 g2) g1
  · rw [iv_f g1, iv_t g2, iv_f g3]; decide
  · rw [iv_f g1, iv_f g2, iv_t g3]; decide
  · rw [iv_f g1, iv_f g2, iv_f g3]; decide
/-- what has just two of a triple's points: the triple brings one in -/
theorem cl_two {T : sT} {V m t : Nat} (hT : sOk V T) (ht : t < (trL T 225).length) (h : bcN (mN T t &&& m) = 2) : (∃ k, k < 15 ∧ ¬ m.testBit k = true ∧ (m ||| mN T t).testBit k = true) ∧ ∀ x, clB T x (trL T 225).length → cSub m x → cSub (m ||| mN T t) x := by
  obtain ⟨x, y, z, q1, q2, q3, q4, q5⟩ := mN_p hT ht
  have hV := hT.2.1
  have b : ∀ n : Nat, bcN (mN T t &&& n) = ((iv (n.testBit x = true) + iv (n.testBit y = true) + iv (n.testBit z = true) : Nat) : Int) := fun n => by rw [q1]; exact bc_3t (by omega) (by omega) (by omega) (by omega) (by omega) (by omega)
  have tt : ∀ i, (m ||| mN T t).testBit i = true ↔ (m.testBit i = true ∨ i = x ∨ i = y ∨ i = z) := fun i => by rw [q1, Nat.testBit_or, Bool.or_eq_true, m3_test, decide_eq_true_iff]
  have b0 := b m
  rw [h] at b0
  constructor
  · apply Classical.byContradiction
    intro w
    have w2 : ∀ i, (i = x ∨ i = y ∨ i = z) → m.testBit i = true := fun i hi => Classical.byContradiction (fun g => w ⟨i, by omega, g, (tt i).mpr (Or.inr hi)⟩)
    rw [iv_t (w2 x (Or.inl rfl)), iv_t (w2 y (Or.inr (Or.inl rfl))), iv_t (w2 z (Or.inr (Or.inr rfl)))] at b0
    omega
  · intro n hc hs
    have g := hc t ht
    rw [b n] at g
    have l : ∀ i, iv (m.testBit i = true) ≤ iv (n.testBit i = true) := fun i => by
      by_cases e : m.testBit i = true
      · rw [iv_t e, iv_t (hs i e)]; exact Nat.le_refl _
      · rw [iv_f e]; exact Nat.zero_le _
    have lx := l x
    have ly := l y
    have lz := l z
    have ux : iv (n.testBit x = true) ≤ 1 := iv_le
    have uy : iv (n.testBit y = true) ≤ 1 := iv_le
    have uz : iv (n.testBit z = true) ≤ 1 := iv_le
    have one : ∀ i, iv (n.testBit i = true) = 1 → n.testBit i = true := fun i e => Classical.byContradiction (fun w => by rw [iv_f w] at e; omega)
    intro i hi
    rcases (tt i).mp hi with e | e | e | e
    · exact hs i e
    · rw [e]; exact one x (by omega)
    · rw [e]; exact one y (by omega)
    · rw [e]; exact one z (by omega)
def gCl (V : Nat) (x : Int) : Int := if 0 ≤ x ∧ x < ((2 ^ V : Nat) : Int) then 0 else 1
theorem gCl_0 {V : Nat} {x : Int} : gCl V x = 0 ↔ (0 ≤ x ∧ x < ((2 ^ V : Nat) : Int)) := by
  unfold gCl
  split
  · next h => exact ⟨fun _ => h, fun _ => rfl⟩
  · next h => exact ⟨fun w => absurd w (by decide), fun w => absurd w h⟩
theorem gCl_1 {V : Nat} {x : Int} (h : ¬ gCl V x = 0) : gCl V x = 1 := by
  unfold gCl at *
  split at h
  · exact absurd rfl h
  · next g => exact if_neg g
theorem i_hi {s a e : Int32} {V : Nat} (ha : a.toInt = ((2 ^ V - 1 : Nat) : Int)) (hV : V ≤ 15) (he : e.toInt = -1) : (s &&& (a ^^^ e)).toInt = 0 ↔ (0 ≤ s.toInt ∧ s.toInt < ((2 ^ V : Nat) : Int)) := by
  have p15 : 2 ^ V ≤ 2 ^ 15 := Nat.pow_le_pow_right (by decide) hV
  have ea : a.toBitVec.toNat = 2 ^ V - 1 := bN_t ha
  have ee : e = -1 := Int32.toInt_inj.mp (by rw [he]; decide)
  have ab : ∀ i, i < 32 → (s &&& (a ^^^ e)).toBitVec.getLsbD i = (s.toBitVec.getLsbD i && !decide (i < V)) := by
    intro i hi
    rw [ee, Int32.toBitVec_and, Int32.toBitVec_xor, BitVec.getLsbD_and, BitVec.getLsbD_xor, ← BitVec.testBit_toNat a.toBitVec, ea, Nat.testBit_two_pow_sub_one]
    have e1 : (-1 : Int32).toBitVec = BitVec.allOnes 32 := by decide
    rw [e1, BitVec.getLsbD_allOnes, decide_eq_true hi, Bool.xor_true]
  have sb := s.toBitVec.isLt
  have ez : (s &&& (a ^^^ e)).toInt = 0 ↔ (s &&& (a ^^^ e)).toBitVec = 0#32 := by
    constructor
    · intro h
      have : s &&& (a ^^^ e) = 0 := Int32.toInt_inj.mp (by rw [h]; rfl)
      rw [this]; rfl
    · intro h
      show (s &&& (a ^^^ e)).toBitVec.toInt = 0
      rw [h]; rfl
  have es : (0 ≤ s.toInt ∧ s.toInt < ((2 ^ V : Nat) : Int)) ↔ s.toBitVec.toNat < 2 ^ V := by
    have e1 : s.toInt = s.toBitVec.toInt := rfl
    rw [e1, BitVec.toInt_eq_toNat_cond]
    split <;> constructor <;> intro h <;> omega
  rw [ez, es]
  constructor
  · intro h
    refine Nat.lt_pow_two_of_testBit _ (fun i hi => ?_)
    rw [BitVec.testBit_toNat]
    by_cases g : i < 32
    · have k := ab i g
      rw [h] at k
      have : ¬ i < V := by omega
      simpa [this] using k.symm
    · exact BitVec.getLsbD_of_ge _ _ (by omega)
  · intro h
    refine BitVec.eq_of_getLsbD_eq (fun i hi => ?_)
    rw [ab i hi]
    by_cases g : i < V
    · simp [g]
    · have : s.toBitVec.getLsbD i = false := by
        rw [← BitVec.testBit_toNat]
        exact Nat.testBit_lt_two_pow (Nat.lt_of_lt_of_le h (Nat.pow_le_pow_right (by decide) (by omega)))
      rw [this]; simp
theorem u33 : bUp 0 am_m33.1 = true := by decide +kernel
/-- between the set and each closed one round it -/
def clI (T : sT) (s g : Nat) : Prop := cSub s g ∧ ∀ x, cSub s x → clB T x (trL T 225).length → cSub g x
theorem l33t {d V ms m0 : Nat} {T : sT} {hp : amH} {R : xQ} {s wr : Int32} (hH : bHk 84 bTT hp) (hL : lsN hp 3 T 225) (hT : sOk V T) (h0 : m0 < 32768)
    (hQ : ∀ (m : Nat) (w wt : Int32), w.toInt = (m : Int) → m < 32768 → clI T ms m → ((m = m0 ∧ clB T m0 (trL T 225).length) ∨ pq m0 < pq m) → xV (d + 2) am_m33 60 [some (.ref 3), some (.int s), some (.int w), some (.int wr), some (.int wt)] [] hp R) :
    ∀ (jj t m : Nat) (w wt : Int32), wt.toInt = (t : Int) → t + jj = (trL T 225).length → w.toInt = (m : Int) → m < 32768 → clI T ms m → ((m = m0 ∧ clB T m0 t) ∨ pq m0 < pq m) → xV (d + 2) am_m33 21 [some (.ref 3), some (.int s), some (.int w), some (.int wr), some (.int wt)] [] hp R := by
  have l35 := trL_35 hT 225
  have b1 : rN hp 3 1 = (((trL T 225).length : Nat) : Int) := hL.1
  intro jj
  induction jj with
  | zero =>
    intro t m w wt hwt hj hw hm hI hs
    obtain rfl : t = (trL T 225).length := by omega
    refine xild2 23 ⟨u33, _, rfl⟩ rfl rfl ?_
    refine xald 24 ⟨u33, _, rfl⟩ rfl rfl ?_
    refine xgetC 27 hH ⟨u33, _, rfl⟩ rfl (by decide) (by decide) rfl rfl (by decide) (fun z24 h24 => ?_)
    refine xcmp_ge 30 ⟨u33, _, rfl⟩ rfl (fun c27 => ?_) (fun c27 => ?_)
    · exact hQ m _ _ hw hm hI hs
    · omega
  | succ jj ih =>
    intro t m w wt hwt hj hw hm hI hs
    have ht : t < (trL T 225).length := by omega
    have ml := (mN_lt hT ht).1
    refine xild2 23 ⟨u33, _, rfl⟩ rfl rfl ?_
    refine xald 24 ⟨u33, _, rfl⟩ rfl rfl ?_
    refine xgetC 27 hH ⟨u33, _, rfl⟩ rfl (by decide) (by decide) rfl rfl (by decide) (fun z24 h24 => ?_)
    refine xcmp_ge 30 ⟨u33, _, rfl⟩ rfl (fun c27 => ?_) (fun c27 => ?_)
    · omega
    · refine xald 31 ⟨u33, _, rfl⟩ rfl rfl ?_
      refine xild2 33 ⟨u33, _, rfl⟩ rfl rfl ?_
      refine xcallC 36 (o := 3) [.int _] [] hH ⟨u33, _, rfl⟩ rfl rfl (by decide) rfl (by decide) rfl ⟨rfl, rfl, rfl, rfl⟩ rfl (k_setL hH hL (t := t) hwt ht (fun z33 h33 => ⟨_, rfl, ?_⟩))
      refine xild 37 ⟨u33, _, rfl⟩ rfl rfl ?_
      refine xand 38 ⟨u33, _, rfl⟩ rfl ?_
      refine xcallS 41 [.int _] [] hH ⟨u33, _, rfl⟩ rfl rfl rfl rfl rfl (k_bc (i_and h33 hw ml).1 (fun z38 h38 => ⟨_, rfl, ?_⟩))
      refine xcst 42 (2) ⟨u33, _, rfl⟩ rfl (by decide) (fun z41 h41 => ?_)
      refine xcmp_ne 45 ⟨u33, _, rfl⟩ rfl (fun c42 => ?_) (fun c42 => ?_)
      · refine xinc 57 (1) ⟨u33, _, rfl⟩ rfl rfl rfl (by decide) (by omega) (by omega) (fun z54 h54 => ?_)
        refine xgoto ⟨u33, _, rfl⟩ ?_
        refine ih (t + 1) m _ _ (by omega) (by omega) hw hm hI (hs.imp (fun e => ⟨e.1, clB_s e.2 ?_⟩) id)
        rw [← e.1]
        omega
      · refine xild 46 ⟨u33, _, rfl⟩ rfl rfl ?_
        refine xald 47 ⟨u33, _, rfl⟩ rfl rfl ?_
        refine xild2 49 ⟨u33, _, rfl⟩ rfl rfl ?_
        refine xcallC 52 (o := 3) [.int _] [.int _] hH ⟨u33, _, rfl⟩ rfl rfl (by decide) rfl (by decide) rfl ⟨rfl, rfl, rfl, rfl⟩ rfl (k_setL hH hL (t := t) hwt ht (fun z49 h49 => ⟨_, rfl, ?_⟩))
        refine xor_ 53 ⟨u33, _, rfl⟩ rfl ?_
        have e53 := i_or hw h49 hm ml
        have tw := cl_two hT ht (show bcN (mN T t &&& m) = 2 by omega)
        refine xist 54 ⟨u33, _, rfl⟩ rfl rfl ?_
        refine xinc 57 (1) ⟨u33, _, rfl⟩ rfl rfl rfl (by decide) (by omega) (by omega) (fun z54 h54 => ?_)
        refine xgoto ⟨u33, _, rfl⟩ ?_
        obtain ⟨k, k1, k2, k3⟩ := tw.1
        have up : pq m < pq (m ||| mN T t) := pq_lt (k := k) (fun i g => by rw [Nat.testBit_or, g]; rfl) k1 k2 k3
        refine ih (t + 1) _ _ _ (by omega) (by omega) e53.1 e53.2 ⟨fun i g => ?_, fun x g1 g2 => tw.2 x g2 (hI.2 x g1 g2)⟩ (Or.inr ?_)
        · rw [Nat.testBit_or, hI.1 i g]; rfl
        · rcases hs with e | e
          · rw [← e.1]; exact up
          · omega
theorem l33r {d V ms : Nat} {T : sT} {hp : amH} {R : xQ} {s : Int32} (hH : bHk 84 bTT hp) (hL : lsN hp 3 T 225) (hT : sOk V T)
    (hR : ∀ (z : Int32) (m : Nat), z.toInt = (m : Int) → clP T ms m → R (.inl (some (.int z))) hp) :
    ∀ (jj r m : Nat) (w wr : Int32) (v4 : Option Value), wr.toInt = (r : Int) → r + jj = 15 → w.toInt = (m : Int) → m < 32768 → clI T ms m → r ≤ pq m → xV (d + 2) am_m33 4 [some (.ref 3), some (.int s), some (.int w), some (.int wr), v4] [] hp R := by
  have l35 := trL_35 hT 225
  have b1 : rN hp 3 1 = (((trL T 225).length : Nat) : Int) := hL.1
  intro jj
  induction jj with
  | zero =>
    intro r m w wr v4 hwr hj hw hm hI hpq
    refine xild 5 ⟨u33, _, rfl⟩ rfl rfl ?_
    refine xbip 7 (15) ⟨u33, _, rfl⟩ rfl (by decide) (fun z5 h5 => ?_)
    refine xcmp_ge 10 ⟨u33, _, rfl⟩ rfl (fun c7 => ?_) (fun c7 => ?_)
    · refine xild 67 ⟨u33, _, rfl⟩ rfl rfl ?_
      exact xret ⟨u33, _, rfl⟩ rfl (hR _ m hw ⟨hI.1, clB_all hT (fun i hi => pq_all hm (by omega) (by have := hT.2.1; omega)), hI.2⟩)
    · omega
  | succ jj ih =>
    intro r m w wr v4 hwr hj hw hm hI hpq
    refine xild 5 ⟨u33, _, rfl⟩ rfl rfl ?_
    refine xbip 7 (15) ⟨u33, _, rfl⟩ rfl (by decide) (fun z5 h5 => ?_)
    refine xcmp_ge 10 ⟨u33, _, rfl⟩ rfl (fun c7 => ?_) (fun c7 => ?_)
    · omega
    · refine xald 11 ⟨u33, _, rfl⟩ rfl rfl ?_
      refine xild 12 ⟨u33, _, rfl⟩ rfl rfl ?_
      refine xcallC 15 (o := 3) [.int _] [] hH ⟨u33, _, rfl⟩ rfl rfl (by decide) rfl (by decide) rfl ⟨rfl, rfl, rfl, rfl⟩ rfl (k_32E hH hL hT hw hm (fun z12 h12 => ⟨_, rfl, ?_⟩))
      refine xif_ne 18 ⟨u33, _, rfl⟩ rfl (fun c15 => ?_) (fun c15 => ?_)
      · have yc : clB T m (trL T 225).length := by
          rcases h12 with ⟨-, e⟩ | ⟨e, -⟩
          · exact e
          · omega
        refine xild 67 ⟨u33, _, rfl⟩ rfl rfl ?_
        exact xret ⟨u33, _, rfl⟩ rfl (hR _ m hw ⟨hI.1, yc, hI.2⟩)
      · have nc : ¬ clB T m (trL T 225).length := by
          rcases h12 with ⟨e, -⟩ | ⟨-, e⟩
          · omega
          · exact e
        refine xcst 19 (0) ⟨u33, _, rfl⟩ rfl (by decide) (fun z18 h18 => ?_)
        refine xist2 21 ⟨u33, _, rfl⟩ rfl rfl ?_
        refine l33t (m0 := m) (ms := ms) hH hL hT hm (fun m1 w1 wt q1 q2 q3 q4 => ?_) (trL T 225).length 0 m _ _ (by omega) (by omega) hw hm hI (Or.inl ⟨rfl, fun s hs => absurd hs (Nat.not_lt_zero s)⟩)
        have up : pq m < pq m1 := by
          rcases q4 with e | e
          · exact absurd e.2 nc
          · exact e
        refine xinc 63 (1) ⟨u33, _, rfl⟩ rfl rfl rfl (by decide) (by omega) (by omega) (fun z60 h60 => ?_)
        refine xgoto ⟨u33, _, rfl⟩ ?_
        exact ih (r + 1) m1 _ _ _ (by omega) (by omega) q1 q2 q3 (by omega)
theorem k_33E {d V ms : Nat} {T : sT} {hp : amH} {R : xQ} {s : Int32} (hH : bHk 84 bTT hp) (hL : lsN hp 3 T 225) (hT : sOk V T) (hs : s.toInt = (ms : Int)) (hm : ms < 32768)
    (hR : ∀ (z : Int32) (m : Nat), z.toInt = (m : Int) → clP T ms m → R (.inl (some (.int z))) hp) : xK (d + 2) 33 [.ref 3, .int s] hp R := by
  refine xin (M := am_m33) rfl rfl rfl ?_
  refine xild 1 ⟨u33, _, rfl⟩ rfl rfl ?_
  refine xist 2 ⟨u33, _, rfl⟩ rfl rfl ?_
  refine xcst 3 (0) ⟨u33, _, rfl⟩ rfl (by decide) (fun z2 h2 => ?_)
  refine xist 4 ⟨u33, _, rfl⟩ rfl rfl ?_
  refine xpad 1 ?_
  exact l33r hH hL hT hR 15 0 ms _ _ _ h2 rfl hs hm ⟨fun i g => g, fun x g1 g2 => g1⟩ (Nat.zero_le _)
theorem u162 : bUp 0 am_m162.1 = true := by decide +kernel
theorem k_162E {d V n : Nat} {h : Nat → sR} {sv : Option sR} {T : sT} {ty : Nat → Int} {hp : amH} {R : xQ} {s : Int32} (hH : bHk 84 bTT hp) (hS : clS hp (V, T, ty) n h sv)
    (hT : ∀ E hp1, bHk 84 bTT hp1 → cF hp hp1 → clS hp1 (V, T, ty) n h sv → ¬ gCl V s.toInt = 0 → ((gCl V s.toInt = 1 ∧ E = 0)) → R (.inr E) hp1)
    (hR : ∀ (z : Int32) hp1, bHk 84 bTT hp1 → cF hp hp1 → gCl V s.toInt = 0 → clS hp1 (V, T, ty) n h sv → z.toInt = ((clN T s.toInt.toNat : Nat) : Int) → R (.inl (some (.int z))) hp1) : xK (d + 4) 162 [.ref 0, .int s] hp R := by
  have hB : bdOk hp 3 V T := hS.1
  have b0 : rN hp 3 0 = (V : Int) := hB.1
  have hL : lsN hp 3 T 225 := hS.2.1
  have b1 : rN hp 3 1 = (((trL T 225).length : Nat) : Int) := hL.1
  have hT0 : sOk V T := hB.2.1
  have h15 : V ≤ 15 := hT0.2.1
  have l35 : (trL T 225).length ≤ 35 := trL_35 hT0 225
  have p15 : 2 ^ V ≤ 2 ^ 15 := Nat.pow_le_pow_right (by decide) h15
  have g01 : gCl V s.toInt = 0 ∨ gCl V s.toInt = 1 := Classical.or_iff_not_imp_left.mpr gCl_1
  refine xin (M := am_m162) rfl rfl rfl ?_
  refine xild 1 ⟨u162, _, rfl⟩ rfl rfl ?_
  refine xald 2 ⟨u162, _, rfl⟩ rfl rfl ?_
  refine xgetD 5 (3) hH ⟨u162, _, rfl⟩ rfl (by decide) (by decide) rfl rfl (by decide) ?_
  refine xcallC 8 (o := 3) [] [.int _] hH ⟨u162, _, rfl⟩ rfl rfl (by decide) rfl (by decide) rfl ⟨rfl, rfl, rfl, rfl⟩ rfl (k_all (o := 3) (Or.inl rfl) hH b0 (fun z5 h5 => ⟨_, rfl, ?_⟩))
  refine xcst 9 (-1) ⟨u162, _, rfl⟩ rfl (by decide) (fun z8 h8 => ?_)
  refine xxor 10 ⟨u162, _, rfl⟩ rfl ?_
  refine xand 11 ⟨u162, _, rfl⟩ rfl ?_
  have ih := i_hi (s := s) h5 h15 h8
  refine xif_eq 14 ⟨u162, _, rfl⟩ rfl (fun c11 => ?_) (fun c11 => ?_)
  · have g0 : gCl V s.toInt = 0 := gCl_0.mpr (ih.mp c11)
    have k0 := gCl_0.mp g0
    refine xald 26 ⟨u162, _, rfl⟩ rfl rfl ?_
    refine xgetD 29 (3) hH ⟨u162, _, rfl⟩ rfl (by decide) (by decide) rfl rfl (by decide) ?_
    refine xild 30 ⟨u162, _, rfl⟩ rfl rfl ?_
    refine xcallC 33 (o := 3) [.int _] [] hH ⟨u162, _, rfl⟩ rfl rfl (by decide) rfl (by decide) rfl ⟨rfl, rfl, rfl, rfl⟩ rfl (k_33E hH hL hT0 (ms := s.toInt.toNat) (by omega) (by omega) (fun z30 m30 h30 g30 => ⟨_, rfl, ?_⟩))
    exact xret ⟨u162, _, rfl⟩ rfl (hR _ _ hH cF.refl g0 hS (by rw [clN_e g30]; exact h30))
  · have g1 : gCl V s.toInt = 1 := gCl_1 (fun w => c11 (ih.mpr (gCl_0.mp w)))
    exact xthr ⟨u162, _, rfl⟩ (by decide) rfl (by decide) (hT _ hp hH cF.refl hS (by rw [g1]; decide) (Or.inl ⟨g1, rfl⟩))
/-- pairs before (a, b) have their third points in -/
def rcI (T : sT) (ms m a b : Nat) : Prop := ∀ x y c : Nat, y < x → (x < a ∨ (x = a ∧ y < b)) → ms.testBit x = true → ms.testBit y = true → T x y = (c : Int) → m.testBit c = true
theorem clI_T {V : Nat} {T : sT} {ms m a b c : Nat} (hT : sOk V T) (h : clI T ms m) (e : T a b = (c : Int)) (ha : m.testBit a = true) (hb : m.testBit b = true) : clI T ms (m ||| 2 ^ c) := by
  refine ⟨fun i g => by rw [Nat.testBit_or, h.1 i g]; rfl, fun x g1 g2 i g => ?_⟩
  rw [Nat.testBit_or, Nat.testBit_two_pow, Bool.or_eq_true, decide_eq_true_iff] at g
  have k := h.2 x g1 g2
  rcases g with g | g
  · exact k i g
  · subst g
    exact clB_T hT g2 e (k a ha) (k b hb)
theorem clI_l {V : Nat} {T : sT} {ms m : Nat} (hT : sOk V T) (hm : m < 2 ^ V) {c : Nat} (hc : c < V) : m ||| 2 ^ c < 2 ^ V := Nat.or_lt_two_pow hm (Nat.pow_lt_pow_right (by decide) hc)
theorem l326b {d V ms a : Nat} {T : sT} {hp : amH} {R : xQ} {s wa : Int32} (hH : bHk 84 bTT hp) (hB : rdOk hp V T) (hwa : wa.toInt = (a : Int)) (ha : a < V)
    (hQ : ∀ (m : Nat) (w wb : Int32) (v5 : Option Value), w.toInt = (m : Int) → m < 2 ^ V → clI T ms m → rcI T ms m (a + 1) 0 → xV (d + 1) am_m326 81 [some (.ref 66), some (.int s), some (.int w), some (.int wa), some (.int wb), v5] [] hp R) :
    ∀ (jj b m : Nat) (w wb : Int32) (v5 : Option Value), wb.toInt = (b : Int) → b + jj = a → w.toInt = (m : Int) → m < 2 ^ V → clI T ms m → rcI T ms m a b → xV (d + 1) am_m326 15 [some (.ref 66), some (.int s), some (.int w), some (.int wa), some (.int wb), v5] [] hp R := by
  have hT := hB.2.1
  have b0 : rN hp 67 0 = (V : Int) := hB.1
  have hV := hT.2.1
  have p15 : 2 ^ V ≤ 2 ^ 15 := Nat.pow_le_pow_right (by decide) hV
  intro jj
  induction jj with
  | zero =>
    intro b m w wb v5 hwb hj hw hm hI hc
    obtain rfl : b = a := by omega
    refine xild2 17 ⟨u326, _, rfl⟩ rfl rfl ?_
    refine xild 18 ⟨u326, _, rfl⟩ rfl rfl ?_
    refine xcmp_ge 21 ⟨u326, _, rfl⟩ rfl (fun c18 => ?_) (fun c18 => ?_)
    · exact hQ m _ _ _ hw hm hI (fun x y c g1 g2 => hc x y c g1 (by omega))
    · omega
  | succ jj ih =>
    intro b m w wb v5 hwb hj hw hm hI hc
    have ea : wa.toInt.toNat = a := by omega
    have eb : wb.toInt.toNat = b := by omega
    refine xild2 17 ⟨u326, _, rfl⟩ rfl rfl ?_
    refine xild 18 ⟨u326, _, rfl⟩ rfl rfl ?_
    refine xcmp_ge 21 ⟨u326, _, rfl⟩ rfl (fun c18 => ?_) (fun c18 => ?_)
    · omega
    · refine xild 22 ⟨u326, _, rfl⟩ rfl rfl ?_
      refine xild 23 ⟨u326, _, rfl⟩ rfl rfl ?_
      refine xshr 24 ⟨u326, _, rfl⟩ rfl ?_
      refine xcst 25 (1) ⟨u326, _, rfl⟩ rfl (by decide) (fun z24 h24 => ?_)
      refine xand 26 ⟨u326, _, rfl⟩ rfl ?_
      refine xcst 27 (1) ⟨u326, _, rfl⟩ rfl (by decide) (fun z26 h26 => ?_)
      have w1 := i_shr hw (by omega) hwa (by omega)
      have w2 := i_and w1.1 (b := 1) h24 w1.2
      rw [bit_1] at w2
      refine xcmp_ne 30 ⟨u326, _, rfl⟩ rfl (fun c27 => ?_) (fun c27 => ?_)
      · have na : ¬ ms.testBit a = true := fun g => by
          have g2 := hI.1 a g
          rw [g2, show Bool.toNat true = 1 from rfl] at w2
          omega
        refine xcst 45 (0) ⟨u326, _, rfl⟩ rfl (by decide) (fun z44 h44 => ?_)
        refine xist2 47 ⟨u326, _, rfl⟩ rfl rfl ?_
        refine xild2 49 ⟨u326, _, rfl⟩ rfl rfl ?_
        refine xif_eq 52 ⟨u326, _, rfl⟩ rfl (fun c49 => ?_) (fun c49 => ?_)
        · refine xinc 78 (1) ⟨u326, _, rfl⟩ rfl rfl rfl (by decide) (by omega) (by omega) (fun z75 h75 => ?_)
          refine xgoto ⟨u326, _, rfl⟩ ?_
          refine ih (b + 1) m _ _ _ (by omega) (by omega) hw hm hI (fun x y u g1 g2 g3 g4 g5 => ?_)
          by_cases g : x = a ∧ y = b
          · exact absurd g3 (by rw [g.1]; exact na)
          · exact hc x y u g1 (by omega) g3 g4 g5
        · omega
      · have ba : m.testBit a = true := by
          cases e : m.testBit a with
          | true => rfl
          | false => rw [e, show Bool.toNat false = 0 from rfl] at w2; omega
        refine xild 31 ⟨u326, _, rfl⟩ rfl rfl ?_
        refine xild2 33 ⟨u326, _, rfl⟩ rfl rfl ?_
        refine xshr 34 ⟨u326, _, rfl⟩ rfl ?_
        refine xcst 35 (1) ⟨u326, _, rfl⟩ rfl (by decide) (fun z34 h34 => ?_)
        refine xand 36 ⟨u326, _, rfl⟩ rfl ?_
        refine xcst 37 (1) ⟨u326, _, rfl⟩ rfl (by decide) (fun z36 h36 => ?_)
        have w3 := i_shr hw (by omega) hwb (by omega)
        have w4 := i_and w3.1 (b := 1) h34 w3.2
        rw [bit_1] at w4
        refine xcmp_ne 40 ⟨u326, _, rfl⟩ rfl (fun c37 => ?_) (fun c37 => ?_)
        · have nb : ¬ ms.testBit b = true := fun g => by
            have g2 := hI.1 b g
            rw [g2, show Bool.toNat true = 1 from rfl] at w4
            omega
          refine xcst 45 (0) ⟨u326, _, rfl⟩ rfl (by decide) (fun z44 h44 => ?_)
          refine xist2 47 ⟨u326, _, rfl⟩ rfl rfl ?_
          refine xild2 49 ⟨u326, _, rfl⟩ rfl rfl ?_
          refine xif_eq 52 ⟨u326, _, rfl⟩ rfl (fun c49 => ?_) (fun c49 => ?_)
          · refine xinc 78 (1) ⟨u326, _, rfl⟩ rfl rfl rfl (by decide) (by omega) (by omega) (fun z75 h75 => ?_)
            refine xgoto ⟨u326, _, rfl⟩ ?_
            refine ih (b + 1) m _ _ _ (by omega) (by omega) hw hm hI (fun x y u g1 g2 g3 g4 g5 => ?_)
            by_cases g : x = a ∧ y = b
            · exact absurd g4 (by rw [g.2]; exact nb)
            · exact hc x y u g1 (by omega) g3 g4 g5
          · omega
        · have bb : m.testBit b = true := by
            cases e : m.testBit b with
            | true => rfl
            | false => rw [e, show Bool.toNat false = 0 from rfl] at w4; omega
          refine xcst 41 (1) ⟨u326, _, rfl⟩ rfl (by decide) (fun z40 h40 => ?_)
          refine xgoto ⟨u326, _, rfl⟩ ?_
          refine xist2 47 ⟨u326, _, rfl⟩ rfl rfl ?_
          refine xild2 49 ⟨u326, _, rfl⟩ rfl rfl ?_
          refine xif_eq 52 ⟨u326, _, rfl⟩ rfl (fun c49 => ?_) (fun c49 => ?_)
          · omega
          · refine xald 53 ⟨u326, _, rfl⟩ rfl rfl ?_
            refine xild 54 ⟨u326, _, rfl⟩ rfl rfl ?_
            refine xild2 56 ⟨u326, _, rfl⟩ rfl rfl ?_
            refine xcall 59 [.ref 66, .int _, .int _] [] hH ⟨u326, _, rfl⟩ rfl rfl rfl rfl rfl (k_third hH (by omega) (by omega) (by omega) (by omega) (fun z56 h56 => ⟨_, rfl, ?_⟩))
            have h56 := h56.trans (hB.2.2.1 _ _ (by omega) (by omega))
            rw [ea, eb] at h56
            refine xcst 60 (-1) ⟨u326, _, rfl⟩ rfl (by decide) (fun z59 h59 => ?_)
            refine xcmp_eq 63 ⟨u326, _, rfl⟩ rfl (fun c60 => ?_) (fun c60 => ?_)
            · have t1 : T a b = -1 := by omega
              refine xinc 78 (1) ⟨u326, _, rfl⟩ rfl rfl rfl (by decide) (by omega) (by omega) (fun z75 h75 => ?_)
              refine xgoto ⟨u326, _, rfl⟩ ?_
              refine ih (b + 1) m _ _ _ (by omega) (by omega) hw hm hI (fun x y u g1 g2 g3 g4 g5 => ?_)
              by_cases g : x = a ∧ y = b
              · exact absurd g5 (by rw [g.1, g.2, t1]; omega)
              · exact hc x y u g1 (by omega) g3 g4 g5
            · refine xild 64 ⟨u326, _, rfl⟩ rfl rfl ?_
              refine xcst 65 (1) ⟨u326, _, rfl⟩ rfl (by decide) (fun z64 h64 => ?_)
              refine xald 66 ⟨u326, _, rfl⟩ rfl rfl ?_
              refine xild 67 ⟨u326, _, rfl⟩ rfl rfl ?_
              refine xild2 69 ⟨u326, _, rfl⟩ rfl rfl ?_
              refine xcall 72 [.ref 66, .int _, .int _] [.int _, .int _] hH ⟨u326, _, rfl⟩ rfl rfl rfl rfl rfl (k_third hH (by omega) (by omega) (by omega) (by omega) (fun z69 h69 => ⟨_, rfl, ?_⟩))
              have h69 := h69.trans (hB.2.2.1 _ _ (by omega) (by omega))
              rw [ea, eb] at h69
              refine xshl 73 ⟨u326, _, rfl⟩ rfl ?_
              obtain ⟨c, ec, k1, k2, k3, -⟩ := sOk_at hT (show T a b = T a b from rfl) (by omega)
              have e72 := i_shl h64 (n := c) (c := z69) (by omega) (by omega)
              have e73 := i_or hw e72.1 (by omega) e72.2
              refine xor_ 74 ⟨u326, _, rfl⟩ rfl ?_
              refine xist 75 ⟨u326, _, rfl⟩ rfl rfl ?_
              refine xinc 78 (1) ⟨u326, _, rfl⟩ rfl rfl rfl (by decide) (by omega) (by omega) (fun z75 h75 => ?_)
              refine xgoto ⟨u326, _, rfl⟩ ?_
              refine ih (b + 1) (m ||| 2 ^ c) _ _ _ (by omega) (by omega) e73.1 (clI_l hT hm (by omega)) (clI_T hT hI (show T a b = (c : Int) by omega) ba bb) (fun x y u g1 g2 g3 g4 g5 => ?_)
              rw [Nat.testBit_or, Nat.testBit_two_pow, Bool.or_eq_true, decide_eq_true_iff]
              by_cases g : x = a ∧ y = b
              · obtain ⟨rfl, rfl⟩ := g
                exact Or.inr (by omega)
              · exact Or.inl (hc x y u g1 (by omega) g3 g4 g5)
theorem l326a {d V ms : Nat} {T : sT} {hp : amH} {R : xQ} {s : Int32} (hH : bHk 84 bTT hp) (hB : rdOk hp V T)
    (hQ : ∀ (m : Nat) (w wa : Int32) (v4 v5 : Option Value), w.toInt = (m : Int) → m < 2 ^ V → clI T ms m → rcI T ms m V 0 → xV (d + 1) am_m326 87 [some (.ref 66), some (.int s), some (.int w), some (.int wa), v4, v5] [] hp R) :
    ∀ (jj a m : Nat) (w wa : Int32) (v4 v5 : Option Value), wa.toInt = (a : Int) → a + jj = V → w.toInt = (m : Int) → m < 2 ^ V → clI T ms m → rcI T ms m a 0 → xV (d + 1) am_m326 4 [some (.ref 66), some (.int s), some (.int w), some (.int wa), v4, v5] [] hp R := by
  have hT := hB.2.1
  have b0 : rN hp 67 0 = (V : Int) := hB.1
  have hV := hT.2.1
  intro jj
  induction jj with
  | zero =>
    intro a m w wa v4 v5 hwa hj hw hm hI hc
    obtain rfl : a = V := by omega
    refine xild 5 ⟨u326, _, rfl⟩ rfl rfl ?_
    refine xald 6 ⟨u326, _, rfl⟩ rfl rfl ?_
    refine xcall 9 [.ref 66] [.int _] hH ⟨u326, _, rfl⟩ rfl rfl rfl rfl rfl (k_points hH (fun z6 h6 => ⟨_, rfl, ?_⟩))
    refine xcmp_ge 12 ⟨u326, _, rfl⟩ rfl (fun c9 => ?_) (fun c9 => ?_)
    · exact hQ m _ _ _ _ hw hm hI hc
    · omega
  | succ jj ih =>
    intro a m w wa v4 v5 hwa hj hw hm hI hc
    refine xild 5 ⟨u326, _, rfl⟩ rfl rfl ?_
    refine xald 6 ⟨u326, _, rfl⟩ rfl rfl ?_
    refine xcall 9 [.ref 66] [.int _] hH ⟨u326, _, rfl⟩ rfl rfl rfl rfl rfl (k_points hH (fun z6 h6 => ⟨_, rfl, ?_⟩))
    refine xcmp_ge 12 ⟨u326, _, rfl⟩ rfl (fun c9 => ?_) (fun c9 => ?_)
    · omega
    · refine xcst 13 (0) ⟨u326, _, rfl⟩ rfl (by decide) (fun z12 h12 => ?_)
      refine xist2 15 ⟨u326, _, rfl⟩ rfl rfl ?_
      refine l326b (ms := ms) (s := s) hH hB hwa (by omega) (fun m1 w1 wb v5 q1 q2 q3 q4 => ?_) a 0 m _ _ _ h12 (by omega) hw hm hI hc
      refine xinc 84 (1) ⟨u326, _, rfl⟩ rfl rfl rfl (by decide) (by omega) (by omega) (fun z81 h81 => ?_)
      refine xgoto ⟨u326, _, rfl⟩ ?_
      exact ih (a + 1) m1 _ _ _ _ (by omega) (by omega) q1 q2 q3 q4
theorem k_326E {V : Nat} {T : sT} {hp : amH} (hH : bHk 84 bTT hp) (hB : rdOk hp V T) : ∀ (j ms d : Nat) (R : xQ) (s : Int32), s.toInt = (ms : Int) → ms < 2 ^ V → 15 ≤ pq ms + j →
    (∀ (z : Int32) (m : Nat), z.toInt = (m : Int) → clP T ms m → R (.inl (some (.int z))) hp) → xK (d + 1 + j) 326 [.ref 66, .int s] hp R := by
  have hT := hB.2.1
  have hV := hT.2.1
  have p15 : 2 ^ V ≤ 2 ^ 15 := Nat.pow_le_pow_right (by decide) hV
  intro j
  induction j with
  | zero =>
    intro ms d R s hs hm h15 hR
    refine xin (M := am_m326) rfl rfl rfl ?_
    refine xild 1 ⟨u326, _, rfl⟩ rfl rfl ?_
    refine xist 2 ⟨u326, _, rfl⟩ rfl rfl ?_
    refine xcst 3 (0) ⟨u326, _, rfl⟩ rfl (by decide) (fun z2 h2 => ?_)
    refine xist 4 ⟨u326, _, rfl⟩ rfl rfl ?_
    refine xpad 2 ?_
    refine l326a (d := d) (ms := ms) (s := s) hH hB (fun m w wa v4 v5 q1 q2 q3 q4 => ?_) V 0 ms _ _ _ _ h2 (by omega) hs hm ⟨fun i g => g, fun x g1 g2 => g1⟩ (fun x y c g1 g2 => absurd g2 (by omega))
    refine xild 88 ⟨u326, _, rfl⟩ rfl rfl ?_
    refine xild 89 ⟨u326, _, rfl⟩ rfl rfl ?_
    refine xcmp_ne 92 ⟨u326, _, rfl⟩ rfl (fun c89 => ?_) (fun c89 => ?_)
    · have ne : ¬ m = ms := by omega
      refine absurd (Nat.eq_of_testBit_eq (fun i => ?_)) ne
      by_cases g : i < 15
      · rw [q3.1 i (pq_all (by omega) (by omega) g), pq_all (by omega) (by omega) g]
      · rw [Nat.testBit_lt_two_pow (Nat.lt_of_lt_of_le q2 (Nat.pow_le_pow_right (by decide) (by omega))), Nat.testBit_lt_two_pow (Nat.lt_of_lt_of_le hm (Nat.pow_le_pow_right (by decide) (by omega)))]
    · have em : m = ms := by omega
      refine xild 93 ⟨u326, _, rfl⟩ rfl rfl ?_
      refine xgoto ⟨u326, _, rfl⟩ ?_
      exact xret ⟨u326, _, rfl⟩ rfl (hR _ ms hs ⟨fun i g => g, cz_B hT (fun a b c g1 g2 g3 g4 g5 => by rw [← em]; exact q4 a b c g1 (Or.inl g2) g3 g4 g5), fun x g1 g2 => g1⟩)
  | succ j ih =>
    intro ms d R s hs hm h15 hR
    refine xin (M := am_m326) rfl rfl rfl ?_
    refine xild 1 ⟨u326, _, rfl⟩ rfl rfl ?_
    refine xist 2 ⟨u326, _, rfl⟩ rfl rfl ?_
    refine xcst 3 (0) ⟨u326, _, rfl⟩ rfl (by decide) (fun z2 h2 => ?_)
    refine xist 4 ⟨u326, _, rfl⟩ rfl rfl ?_
    refine xpad 2 ?_
    refine l326a (d := d + 1 + j) (ms := ms) (s := s) hH hB (fun m w wa v4 v5 q1 q2 q3 q4 => ?_) V 0 ms _ _ _ _ h2 (by omega) hs hm ⟨fun i g => g, fun x g1 g2 => g1⟩ (fun x y c g1 g2 => absurd g2 (by omega))
    refine xild 88 ⟨u326, _, rfl⟩ rfl rfl ?_
    refine xild 89 ⟨u326, _, rfl⟩ rfl rfl ?_
    refine xcmp_ne 92 ⟨u326, _, rfl⟩ rfl (fun c89 => ?_) (fun c89 => ?_)
    · have ne : ¬ m = ms := by omega
      have up : pq ms < pq m := by
        apply Classical.byContradiction
        intro g
        refine ne (Nat.eq_of_testBit_eq (fun i => ?_))
        cases e : ms.testBit i with
        | true => exact q3.1 i e
        | false =>
          cases f : m.testBit i with
          | false => rfl
          | true => exact absurd (pq_lt (k := i) q3.1 (sub_full (by omega) f) (by rw [e]; decide) f) g
      refine xald 97 ⟨u326, _, rfl⟩ rfl rfl ?_
      refine xild 98 ⟨u326, _, rfl⟩ rfl rfl ?_
      refine xcall 101 [.ref 66, .int _] [] hH ⟨u326, _, rfl⟩ rfl rfl rfl rfl rfl (ih m d _ _ q1 q2 (by omega) (fun z98 m98 h98 g98 => ⟨_, rfl, ?_⟩))
      exact xret ⟨u326, _, rfl⟩ rfl (hR _ m98 h98 ⟨fun i g => g98.1 i (q3.1 i g), g98.2.1, fun x g1 g2 => g98.2.2 x (q3.2 x g1 g2) g2⟩)
    · have em : m = ms := by omega
      refine xild 93 ⟨u326, _, rfl⟩ rfl rfl ?_
      refine xgoto ⟨u326, _, rfl⟩ ?_
      exact xret ⟨u326, _, rfl⟩ rfl (hR _ ms hs ⟨fun i g => g, cz_B hT (fun a b c g1 g2 g3 g4 g5 => by rw [← em]; exact q4 a b c g1 (Or.inl g2) g3 g4 g5), fun x g1 g2 => g1⟩)
theorem k_327E {d V n : Nat} {h : Nat → sR} {sv : Option sR} {T : sT} {ty : Nat → Int} {hp : amH} {R : xQ} {s : Int32} (hH : bHk 84 bTT hp) (hP : P0 hp) (hS : rfS hp (V, T, ty) n h sv)
    (hR : ∀ (z : Int32) hp1, bHk 84 bTT hp1 → P0 hp1 → bFr wM hp hp1 → rN hp1 66 7 = gCl V s.toInt → ((¬ gCl V s.toInt = 0 ∧ rfS hp1 (V, T, ty) n h sv) ∨ (gCl V s.toInt = 0 ∧ rfS hp1 (V, T, ty) n h sv ∧ z.toInt = ((clN T s.toInt.toNat : Nat) : Int))) → R (.inl (some (.int z))) hp1) : xK (d + 20) 327 [.ref 66, .int s] hp R := by
  have hB : rdOk hp V T := rowOk_rd hS.1
  have b0 : rN hp 67 0 = (V : Int) := hB.1
  have hT0 : sOk V T := hB.2.1
  have h15 : V ≤ 15 := hT0.2.1
  have l35 : (trL T 225).length ≤ 35 := trL_35 hT0 225
  have p15 : 2 ^ V ≤ 2 ^ 15 := Nat.pow_le_pow_right (by decide) h15
  have g01 : gCl V s.toInt = 0 ∨ gCl V s.toInt = 1 := Classical.or_iff_not_imp_left.mpr gCl_1
  refine xin (M := am_m327) rfl rfl rfl ?_
  refine xald 1 ⟨u327, _, rfl⟩ rfl rfl ?_
  refine xcst 2 (0) ⟨u327, _, rfl⟩ rfl (by decide) (fun z1 h1 => ?_)
  refine xputI 5 hH ⟨u327, _, rfl⟩ rfl rfl ⟨rfl, rfl⟩ (by omega) (by omega) (fun hp2 hH2 U2 => ?_)
  have s2 := U2.1
  have S2 := rfS_W (W := [(66, 7)]) hS (rU_fr U2 rfl) (fun _ => rfl) rfl rfl (fun _ => rfl) (fun _ => rfl)
  have P2 := P0_W (W := [(66, 7)]) (by decide) (rU_fr U2 rfl) hP
  have B2 := rowOk_rd S2.1
  have b2 : rN hp2 67 0 = (V : Int) := B2.1
  refine xald 6 ⟨u327, _, rfl⟩ rfl rfl ?_
  refine xild 7 ⟨u327, _, rfl⟩ rfl rfl ?_
  refine xif_lt 10 ⟨u327, _, rfl⟩ rfl (fun c7 => ?_) (fun c7 => ?_)
  · have g1 : gCl V s.toInt = 1 := gCl_1 (fun w => by have := gCl_0.mp w; omega)
    refine xcst 20 (1) ⟨u327, _, rfl⟩ rfl (by decide) (fun z19 h19 => ?_)
    refine xgoto ⟨u327, _, rfl⟩ ?_
    refine xcst 25 (1) ⟨u327, _, rfl⟩ rfl (by decide) (fun z24 h24 => ?_)
    refine xcall 28 [.ref 66, .int _, .int _] [] hH2 ⟨u327, _, rfl⟩ rfl rfl rfl rfl rfl (k_failsE hH2 (by omega) (fun hp25 hH25 V25 => ⟨_, rfl, ?_⟩))
    refine xif_eq 31 ⟨u327, _, rfl⟩ rfl (fun c28 => ?_) (fun c28 => ?_)
    · rcases V25 with ⟨q1, -⟩ | ⟨q1, -⟩ <;> omega
    · refine xcst 32 (0) ⟨u327, _, rfl⟩ rfl (by decide) (fun z31 h31 => ?_)
      refine xgoto ⟨u327, _, rfl⟩ ?_
      rcases V25 with ⟨q1, -⟩ | ⟨q1, U⟩
      · omega
      · exact xret ⟨u327, _, rfl⟩ rfl (hR _ hp25 hH25 (P0_W (W := [(66, 7)]) (by decide) (rU_fr U rfl) P2) ((rU_fr U2 (by decide)).trans (rU_fr U (by decide))) (by rw [U.1, g1]; omega) (Or.inl ⟨by rw [g1]; decide, rfS_W (W := [(66, 7)]) S2 (rU_fr U rfl) (fun _ => rfl) rfl rfl (fun _ => rfl) (fun _ => rfl)⟩))
  · refine xild 11 ⟨u327, _, rfl⟩ rfl rfl ?_
    refine xald 12 ⟨u327, _, rfl⟩ rfl rfl ?_
    refine xcall 15 [.ref 66] [.int _, .ref 66] hH2 ⟨u327, _, rfl⟩ rfl rfl rfl rfl rfl (k_points hH2 (fun z12 h12 => ⟨_, rfl, ?_⟩))
    refine xshr 16 ⟨u327, _, rfl⟩ rfl ?_
    have e15 := i_shrG (x := s) (c := z12) (a := s.toInt.toNat) (n := V) (by omega) (by omega) (by omega)
    rw [Nat.shiftRight_eq_div_pow] at e15
    refine xif_eq 19 ⟨u327, _, rfl⟩ rfl (fun c16 => ?_) (fun c16 => ?_)
    · have g0 : gCl V s.toInt = 0 := gCl_0.mpr ⟨by omega, by
        have := (Nat.div_eq_zero_iff.mp (show s.toInt.toNat / 2 ^ V = 0 by omega)).resolve_left (by have := Nat.two_pow_pos V; omega)
        omega⟩
      have k0 := gCl_0.mp g0
      refine xcst 24 (0) ⟨u327, _, rfl⟩ rfl (by decide) (fun z23 h23 => ?_)
      refine xcst 25 (1) ⟨u327, _, rfl⟩ rfl (by decide) (fun z24 h24 => ?_)
      refine xcall 28 [.ref 66, .int _, .int _] [] hH2 ⟨u327, _, rfl⟩ rfl rfl rfl rfl rfl (k_failsE hH2 (by omega) (fun hp25 hH25 V25 => ⟨_, rfl, ?_⟩))
      refine xif_eq 31 ⟨u327, _, rfl⟩ rfl (fun c28 => ?_) (fun c28 => ?_)
      · obtain rfl : hp2 = hp25 := by
          rcases V25 with ⟨q1, e⟩ | ⟨q1, -⟩
          · exact e.symm
          · omega
        refine xald 36 ⟨u327, _, rfl⟩ rfl rfl ?_
        refine xild 37 ⟨u327, _, rfl⟩ rfl rfl ?_
        refine xcall 40 [.ref 66, .int _] [] hH25 ⟨u327, _, rfl⟩ rfl rfl rfl rfl rfl (k_326E (d := d + 3) hH2 B2 15 s.toInt.toNat _ _ _ (by omega) (by omega) (by omega) (fun z37 m37 h37 g37 => ⟨_, rfl, ?_⟩))
        exact xret ⟨u327, _, rfl⟩ rfl (hR _ hp2 hH2 P2 (rU_fr U2 (by decide)) (by rw [U2.1, g0]; exact h1) (Or.inr ⟨g0, S2, by rw [clN_e g37]; exact h37⟩))
      · rcases V25 with ⟨q1, -⟩ | ⟨q1, -⟩ <;> omega
    · have g1 : gCl V s.toInt = 1 := gCl_1 (fun w => by
        have k := gCl_0.mp w
        have := Nat.div_eq_of_lt (show s.toInt.toNat < 2 ^ V by omega)
        omega)
      refine xcst 20 (1) ⟨u327, _, rfl⟩ rfl (by decide) (fun z19 h19 => ?_)
      refine xgoto ⟨u327, _, rfl⟩ ?_
      refine xcst 25 (1) ⟨u327, _, rfl⟩ rfl (by decide) (fun z24 h24 => ?_)
      refine xcall 28 [.ref 66, .int _, .int _] [] hH2 ⟨u327, _, rfl⟩ rfl rfl rfl rfl rfl (k_failsE hH2 (by omega) (fun hp25 hH25 V25 => ⟨_, rfl, ?_⟩))
      refine xif_eq 31 ⟨u327, _, rfl⟩ rfl (fun c28 => ?_) (fun c28 => ?_)
      · rcases V25 with ⟨q1, -⟩ | ⟨q1, -⟩ <;> omega
      · refine xcst 32 (0) ⟨u327, _, rfl⟩ rfl (by decide) (fun z31 h31 => ?_)
        refine xgoto ⟨u327, _, rfl⟩ ?_
        rcases V25 with ⟨q1, -⟩ | ⟨q1, U⟩
        · omega
        · exact xret ⟨u327, _, rfl⟩ rfl (hR _ hp25 hH25 (P0_W (W := [(66, 7)]) (by decide) (rU_fr U rfl) P2) ((rU_fr U2 (by decide)).trans (rU_fr U (by decide))) (by rw [U.1, g1]; omega) (Or.inl ⟨by rw [g1]; decide, rfS_W (W := [(66, 7)]) S2 (rU_fr U rfl) (fun _ => rfl) rfl rfl (fun _ => rfl) (fun _ => rfl)⟩))
theorem h377E {d : Nat} {hp : amH} {R : cQ} {x1 : Int32} {V n : Nat} {h : Nat → sR} {sv : Option sR} {T : sT} {ty : Nat → Int} (hI : lawI hp) (c : clS hp (V, T, ty) n h sv) (r : rfS hp (V, T, ty) n h sv)
    (hR : ∀ (z : Int32) hp1 mc ms, lawI hp1 → rfS hp1 (V, T, ty) n h sv → z.toInt = gCl V x1.toInt → ((¬ gCl V x1.toInt = 0 ∧ clS hp1 (V, T, ty) n h sv) ∨ (gCl V x1.toInt = 0 ∧ clS hp1 (V, T, ty) n h sv ∧ rJ hp1 83 0 = ((clN T x1.toInt.toNat : Nat) : Int))) → mc ≤ 1 → ms ≤ 6 → R (.inl (some (.int z))) hp1 mc ms) : cK (d + 20) 377 [.ref 0, .int x1, .ref 83] hp R := by
  refine cin (M := am_m377) rfl rfl rfl ?_
  refine cald 1 ⟨u377J, _, rfl⟩ rfl rfl ?_
  refine ccst 2 (0) ⟨u377J, _, rfl⟩ rfl (by decide) (fun z1 h1 => ?_)
  refine cald 3 ⟨u377J, _, rfl⟩ rfl rfl ?_
  refine cild 4 ⟨u377J, _, rfl⟩ rfl rfl ?_
  refine ccall (kd := 0) (t := 1) [.ref 0, .int _] [.int _, .ref 83] hI.1 ⟨u377J, _, rfl⟩ (Or.inl ⟨_, rfl, rfl, by decide, by decide⟩) rfl rfl rfl ⟨rfl, rfl, rfl⟩ rfl (recv0 hI.1 _) rfl (qKE (Φ := fun z hp1 => bHk 84 bTT hp1 ∧ cF hp hp1 ∧ gCl V x1.toInt = 0 ∧ clS hp1 (V, T, ty) n h sv ∧ z.toInt = ((clN T x1.toInt.toNat : Nat) : Int)) (Ψ := fun E hp1 => lawI hp1 ∧ rfS hp1 (V, T, ty) n h sv ∧ clS hp1 (V, T, ty) n h sv ∧ ¬ gCl V x1.toInt = 0 ∧ ((gCl V x1.toInt = 1 ∧ E = 0))) (fun R g1 g2 => k_162E (d := d + 15) hI.1 c (fun E hp1 b1 b2 b3 e1 e2 => g2 E hp1 ⟨law_cl hI b1 b2, cF_rf b2 r, b3, e1, e2⟩) (fun z hp1 a1 a2 a3 a4 a5 => g1 z hp1 ⟨a1, a2, a3, a4, a5⟩)) (fun z hp1 φ => Or.inl ⟨_, rfl, ?_⟩) (fun E hp1 ψ => Or.inr ?_))
  · refine ci2lE 8 ⟨u377J, _, rfl⟩ rfl (fun w hw => ?_)
    refine clastE 9 φ.1 ⟨u377J, _, rfl⟩ rfl h1 (fun hp2 hH2 F2 J2 => ?_)
    refine cgoto ⟨u377J, _, rfl⟩ ?_
    refine ccst 16 (0) ⟨u377J, _, rfl⟩ rfl (by decide) (fun z9 h9 => ?_)
    exact cret ⟨u377J, _, rfl⟩ (Or.inl rfl) (hR _ _ _ _ (lawI_83 (law_cl hI φ.1 φ.2.1) hH2 F2) (rf_83 F2 (cF_rf φ.2.1 r)) (by rw [φ.2.2.1]; exact h9) (Or.inr ⟨φ.2.2.1, cl_83 F2 φ.2.2.2.1, by rw [J2, hw]; exact φ.2.2.2.2⟩) (by decide) (by decide))
  · obtain ⟨ψ0, ψr, ψc, ψ1, ψ2⟩ := ψ
    obtain ⟨ce, rfl⟩ := ψ2
    refine ⟨0, 12, 3, 13, rfl, rfl, rfl, rfl, ?_⟩
    refine ccst 14 (1) ⟨u377J, _, rfl⟩ rfl (by decide) (fun z9 h9 => ?_)
    exact cret ⟨u377J, _, rfl⟩ (Or.inl rfl) (hR _ _ _ _ ψ0 ψr (by rw [ce]; exact h9) (Or.inl ⟨ψ1, ψc⟩) (by decide) (by decide))
