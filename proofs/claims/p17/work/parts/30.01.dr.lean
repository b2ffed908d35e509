/-! ##### q21 ##### -/
section
/-! ===== quad on both sides ===== -/
theorem lo_dec : ∀ r : Nat, ¬ r = 0 → ∃ j k, r = 2 ^ j * (2 * k + 1) := by
  intro r
  induction r using Nat.strongRecOn with
  | ind r ih =>
    intro h
    by_cases g : r % 2 = 1
    · exact ⟨0, r / 2, by omega⟩
    · obtain ⟨j, k, e⟩ := ih (r / 2) (by omega) (by omega)
      exact ⟨j + 1, k, by rw [Nat.pow_succ, Nat.mul_comm (2 ^ j) 2, Nat.mul_assoc, ← e]; omega⟩
theorem lo_j {r j k : Nat} (hr : r < 32768) (e : r = 2 ^ j * (2 * k + 1)) : j < 15 := by
  rcases Nat.lt_or_ge j 15 with h | h
  · exact h
  · exfalso
    have h1 : 2 ^ 15 ≤ 2 ^ j := Nat.pow_le_pow_right (by decide) h
    have h2 : 2 ^ j * 1 ≤ 2 ^ j * (2 * k + 1) := Nat.mul_le_mul_left _ (by omega)
    omega
theorem lo_t {j k i : Nat} : (2 ^ j * (2 * k + 1)).testBit i = (decide (i = j) || (decide (j < i) && k.testBit (i - j - 1))) := by
  have h := Nat.testBit_two_pow_mul_add (2 * k + 1) (b := 0) (i := j) (Nat.two_pow_pos j) i
  rw [Nat.add_zero] at h
  rw [h]
  by_cases g : i < j
  · rw [if_pos g, Nat.zero_testBit]
    simp; omega
  · rw [if_neg g]
    by_cases g2 : i = j
    · subst g2; rw [Nat.sub_self, Nat.testBit_zero]; simp
    · rw [show i - j = (i - j - 1) + 1 by omega, Nat.testBit_add_one, show (2 * k + 1) / 2 = k by omega]
      simp [g2]; omega
theorem lo_p {j k i : Nat} : (2 ^ j * (2 * k + 1) - 1).testBit i = (decide (i < j) || (decide (j < i) && k.testBit (i - j - 1))) := by
  have p := Nat.two_pow_pos j
  have e : 2 ^ j * (2 * k + 1) - 1 = 2 ^ j * (2 * k) + (2 ^ j - 1) := by rw [Nat.mul_add, Nat.mul_one]; omega
  have h := Nat.testBit_two_pow_mul_add (2 * k) (b := 2 ^ j - 1) (i := j) (by omega) i
  rw [e, h]
  by_cases g : i < j
  · rw [if_pos g, Nat.testBit_two_pow_sub_one]
    simp [g]
  · rw [if_neg g]
    by_cases g2 : i = j
    · subst g2; rw [Nat.sub_self, Nat.testBit_zero]; simp
    · rw [show i - j = (i - j - 1) + 1 by omega, Nat.testBit_add_one, show (2 * k) / 2 = k by omega]
      simp [g]; omega
theorem clr_t {j k i : Nat} : (2 ^ j * (2 * k + 1) &&& (2 ^ j * (2 * k + 1) - 1)).testBit i = ((2 ^ j * (2 * k + 1)).testBit i && !decide (i = j)) := by
  rw [Nat.testBit_and, lo_t, lo_p]
  by_cases g : i = j
  · subst g; simp
  · by_cases g2 : j < i
    · have : ¬ i < j := by omega
      simp [g, g2, this]
    · have : i < j := by omega
      simp [g, g2, this]
theorem low_jd : ∀ j : Fin 15, 2 ^ j.1 * (2 * 2 ^ (31 - j.1)) = 4294967296 := by decide
theorem low_j {r j k : Nat} (hr : r < 32768) (e : r = 2 ^ j * (2 * k + 1)) : lowN r = 2 ^ j := by
  have hj := lo_j hr e
  have d := low_jd ⟨j, hj⟩
  have d : 2 ^ j * (2 * 2 ^ (31 - j)) = 4294967296 := d
  have kl : k < 2 ^ (31 - j) := by
    refine Nat.lt_of_mul_lt_mul_left (a := 2 ^ j * 2) ?_
    rw [Nat.mul_assoc, Nat.mul_assoc, d]
    have : 2 ^ j * (2 * k) ≤ 2 ^ j * (2 * k + 1) := Nat.mul_le_mul_left _ (by omega)
    omega
  have e2 : 4294967296 - r = 2 ^ j * (2 * (2 ^ (31 - j) - (k + 1)) + 1) := by
    have s : 2 ^ j * (2 * (2 ^ (31 - j) - (k + 1)) + 1) + 2 ^ j * (2 * k + 1) = 4294967296 := by
      rw [← Nat.mul_add, show 2 * (2 ^ (31 - j) - (k + 1)) + 1 + (2 * k + 1) = 2 * 2 ^ (31 - j) by omega, d]
    omega
  unfold lowN
  rw [e2, e]
  apply Nat.eq_of_testBit_eq
  intro i
  rw [Nat.testBit_and, lo_t, lo_t, p2_test]
  by_cases g : i = j
  · simp [g]
  · by_cases g2 : j < i
    · rw [Nat.testBit_two_pow_sub_succ kl]
      simp [g]
      intro _ z _ _
      exact z
    · simp [g, g2]
theorem bc_ones : ∀ j : Fin 15, bcN (2 ^ j.1 - 1) = (j.1 : Int) := by decide +kernel
theorem mem_j {m i j k : Nat} (hm : m < 32768) (e : clrN i m = 2 ^ j * (2 * k + 1)) : memN m i = (j : Int) := by
  have hc := clr_lt hm i
  have hj := lo_j hc e
  have hne : ¬ clrN i m = 0 := by
    have := Nat.two_pow_pos j
    have h2 : 2 ^ j * 1 ≤ 2 ^ j * (2 * k + 1) := Nat.mul_le_mul_left _ (by omega)
    omega
  unfold memN
  rw [if_neg hne, low_j hc e]
  exact bc_ones ⟨j, hj⟩
theorem nt_d : ∀ j : Fin 15, (if 0 < Int32.ofNat (2 ^ j.1 - 1) then ntE (nt2 (nt4 (nt8 (nt16 (Int32.ofNat (2 ^ j.1 - 1), 1))))) else Int32.ofNat (2 ^ j.1 - 1) &&& 32).toInt = (j.1 : Int) := by decide +kernel
theorem nt_j {x : Int32} {r j k : Nat} (hx : x.toInt = (r : Int)) (hr : r < 32768) (e : r = 2 ^ j * (2 * k + 1)) : (ntF x).toInt = (j : Int) := by
  have hj := lo_j hr e
  have p := pN_t hx
  have p2 := Nat.two_pow_pos j
  have r1 : 1 ≤ r := by
    have h2 : 2 ^ j * 1 ≤ 2 ^ j * (2 * k + 1) := Nat.mul_le_mul_left _ (by omega)
    omega
  have c1 : pN (1 : Int32) = 1 := by decide
  have e1 : pN (x - 1) = r - 1 := by rw [pN_sub (by omega), p, c1]
  have e0 : pN (x ^^^ (-1)) = r ^^^ (2 ^ 32 - 1) := by
    have c : pN (-1 : Int32) = 2 ^ 32 - 1 := by decide
    rw [← p, ← c]
    unfold pN
    rw [Int32.toBitVec_xor, BitVec.toNat_xor]
  have en : pN (nt0 x) = 2 ^ j - 1 := by
    unfold nt0
    rw [pN_and, e0, e1, e]
    apply Nat.eq_of_testBit_eq
    intro i
    rw [Nat.testBit_and, Nat.testBit_xor, Nat.testBit_two_pow_sub_one, Nat.testBit_two_pow_sub_one, lo_t, lo_p]
    by_cases g : i < j
    · have g1 : ¬ i = j := by omega
      have g2 : ¬ j < i := by omega
      have g3 : i < 32 := by omega
      simp [g, g1, g2, g3]
    · by_cases g1 : i = j
      · subst g1; simp
      · have g2 : j < i := by omega
        by_cases g3 : i < 32
        · simp [g, g1, g2, g3]
        · have kb : k.testBit (i - j - 1) = false := by
            have hb : r.testBit i = false := Nat.testBit_lt_two_pow (Nat.lt_of_lt_of_le hr (Nat.le_trans (by decide : 32768 ≤ 2 ^ 32) (Nat.pow_le_pow_right (by decide) (by omega))))
            rw [e, lo_t] at hb
            simpa [g1, g2] using hb
          simp [g, g1, g2, g3, kb]
  have l : 2 ^ j - 1 < 32768 := by
    have : 2 ^ j < 2 ^ 15 := Nat.pow_lt_pow_right (by decide) hj
    omega
  have ex : nt0 x = Int32.ofNat (2 ^ j - 1) := Int32.toInt_inj.mp (by rw [t_pN (by omega), en, Int32.toInt_ofNat_of_lt (by omega)])
  unfold ntF
  rw [ex]
  exact nt_d ⟨j, hj⟩
theorem pq_bits (m : Nat) : pq m = sm (fun j => iv (m.testBit j = true)) 15 := pq_iv (P := fun j => m.testBit j = true) (fun j _ => Iff.rfl)
theorem pq_clr {r : Nat} (h : ¬ r = 0) (hr : r < 32768) : pq (r &&& (r - 1)) + 1 = pq r := by
  obtain ⟨j, k, e⟩ := lo_dec r h
  have hj := lo_j hr e
  rw [pq_bits, pq_bits]
  have s1 := sm_eq1 (k := j) (n := 15) hj
  have e2 : sm (fun i => iv (r.testBit i = true)) 15 = sm (fun i => iv ((r &&& (r - 1)).testBit i = true)) 15 + sm (fun i => iv (i = j)) 15 := by
    rw [← sm_add]
    refine sm_ext _ (fun i _ => ?_)
    have c := clr_t (j := j) (k := k) (i := i)
    rw [← e] at c
    by_cases g : i = j
    · have hb : r.testBit i = true := by rw [e, lo_t]; simp [g]
      have hc : ¬ (r &&& (r - 1)).testBit i = true := by rw [c]; simp [g]
      rw [iv_t hb, iv_f hc, iv_t g]
    · have hc : (r &&& (r - 1)).testBit i = r.testBit i := by rw [c]; simp [g]
      rw [hc, iv_f g, Nat.add_zero]
  omega
theorem clr_pq {m : Nat} (hm : m < 32768) : ∀ i, i ≤ pq m → pq (clrN i m) + i = pq m
  | 0, _ => rfl
  | i + 1, h => by
    have h1 := clr_pq hm i (by omega)
    have hne : ¬ clrN i m = 0 := fun z => by
      rw [z] at h1
      have : pq 0 = 0 := by decide
      omega
    have h2 := pq_clr hne (clr_lt hm i)
    show pq (clrN i m &&& (clrN i m - 1)) + (i + 1) = pq m
    omega
theorem clr_ne {m i : Nat} (hm : m < 32768) (h : i < pq m) : ¬ clrN i m = 0 := fun z => by
  have h1 := clr_pq hm i (by omega)
  rw [z] at h1
  have : pq 0 = 0 := by decide
  omega
theorem u287 : bUp 0 am_m287.1 = true := by decide +kernel
theorem l287E {d m i : Nat} {hp : amH} {R : xQ} {a b : Int32} (hH : bHk 84 bTT hp) (hm : m < 32768) (hb : b.toInt = (i : Int)) (hi : i < pq m)
    (hR : ∀ z : Int32, z.toInt = memN m i → R (.inl (some (.int z))) hp) :
    ∀ (jj t : Nat) (w wt : Int32), wt.toInt = (t : Int) → t + jj = i → w.toInt = ((clrN t m : Nat) : Int) → xV (d + 1) am_m287 5 [some (.ref 66), some (.int a), some (.int b), some (.int w), some (.int wt)] [] hp R := by
  intro jj
  induction jj with
  | zero =>
    intro t w wt hwt hj hw
    have et : t = i := by omega
    subst et
    have hc := clr_lt hm t
    obtain ⟨j, k, e⟩ := lo_dec _ (clr_ne hm hi)
    refine xild2 7 ⟨u287, _, rfl⟩ rfl rfl ?_
    refine xild 8 ⟨u287, _, rfl⟩ rfl rfl ?_
    refine xcmp_ge 11 ⟨u287, _, rfl⟩ rfl (fun c8 => ?_) (fun c8 => ?_)
    · refine xild 24 ⟨u287, _, rfl⟩ rfl rfl ?_
      refine xcallS 27 [.int _] [] hH ⟨u287, _, rfl⟩ rfl rfl rfl rfl rfl (k_ntR (fun z24 h24 => ⟨_, rfl, ?_⟩))
      exact xret ⟨u287, _, rfl⟩ rfl (hR _ (by rw [h24, nt_j hw hc e, mem_j hm e]))
    · omega
  | succ jj ih =>
    intro t w wt hwt hj hw
    have bb := aMax b
    have hc := clr_lt hm t
    refine xild2 7 ⟨u287, _, rfl⟩ rfl rfl ?_
    refine xild 8 ⟨u287, _, rfl⟩ rfl rfl ?_
    refine xcmp_ge 11 ⟨u287, _, rfl⟩ rfl (fun c8 => ?_) (fun c8 => ?_)
    · omega
    · refine xild 12 ⟨u287, _, rfl⟩ rfl rfl ?_
      refine xild 13 ⟨u287, _, rfl⟩ rfl rfl ?_
      refine xcst 14 (1) ⟨u287, _, rfl⟩ rfl (by decide) (fun z13 h13 => ?_)
      refine xsub 15 _ ⟨u287, _, rfl⟩ rfl rfl (by omega) (by omega) (fun z14 h14 => ?_)
      refine xand 16 ⟨u287, _, rfl⟩ rfl ?_
      refine xist 17 ⟨u287, _, rfl⟩ rfl rfl ?_
      refine xinc 20 (1) ⟨u287, _, rfl⟩ rfl rfl rfl (by decide) (by omega) (by omega) (fun z17 h17 => ?_)
      refine xgoto ⟨u287, _, rfl⟩ ?_
      exact ih (t + 1) _ _ (by omega) (by omega) (i_clr (o := 0) hw hc (by omega))
theorem k_287E {d m i : Nat} {hp : amH} {R : xQ} {a b : Int32} (hH : bHk 84 bTT hp) (ha : a.toInt = (m : Int)) (hm : m < 32768) (hb : b.toInt = (i : Int)) (hi : i < pq m)
    (hR : ∀ z : Int32, z.toInt = memN m i → R (.inl (some (.int z))) hp) : xK (d + 1) 287 [.ref 66, .int a, .int b] hp R := by
  refine xin (M := am_m287) rfl rfl rfl ?_
  refine xild 1 ⟨u287, _, rfl⟩ rfl rfl ?_
  refine xist 2 ⟨u287, _, rfl⟩ rfl rfl ?_
  refine xcst 3 (0) ⟨u287, _, rfl⟩ rfl (by decide) (fun z2 h2 => ?_)
  refine xist2 5 ⟨u287, _, rfl⟩ rfl rfl ?_
  exact l287E hH hm hb hi hR i 0 _ _ h2 (by omega) ha
theorem sum6 : ∀ p a b c d e u : Nat, sxP p a b c d e → iv (u = p ∨ u = a ∨ u = b ∨ u = c ∨ u = d ∨ u = e) = iv (u = p) + (iv (u = a) + (iv (u = b) + (iv (u = c) + (iv (u = d) + iv (u = e))))) := by
  intro p a b c d e u h
  obtain ⟨⟨k1, k2, k3, k4, k5⟩, ⟨k6, k7, k8, k9⟩, ⟨k10, k11, k12⟩, ⟨k13, k14⟩, k15⟩ := h
  rw [iv_or (fun z => by rcases z with ⟨z, y⟩; rw [z] at y; rcases y with y | y | y | y | y <;> contradiction), iv_or (fun z => by rcases z with ⟨z, y⟩; rw [z] at y; rcases y with y | y | y | y <;> contradiction), iv_or (fun z => by rcases z with ⟨z, y⟩; rw [z] at y; rcases y with y | y | y <;> contradiction), iv_or (fun z => by rcases z with ⟨z, y⟩; rw [z] at y; rcases y with y | y <;> contradiction), iv_or (fun z => by rcases z with ⟨z, y⟩; rw [z] at y; contradiction)]
theorem qU_6 {V : Nat} {T : sT} (hT : sOk V T) {n : Nat} (hn : n < 42875) (h : qdB T n = true) : pq (qU T n) = 6 := by
  obtain ⟨p, a, b, c, d, e, hV, h6, eG, eC, hU, -⟩ := qd_all hT hn h
  have h15 := hT.2.1
  rw [pq_iv (P := fun u => u = p ∨ u = a ∨ u = b ∨ u = c ∨ u = d ∨ u = e) (fun j _ => hU j), sm_ext (g := fun u => iv (u = p) + (iv (u = a) + (iv (u = b) + (iv (u = c) + (iv (u = d) + iv (u = e)))))) _ (fun u _ => sum6 p a b c d e u h6), sm_add, sm_add, sm_add, sm_add, sm_add, sm_eq1 (by omega), sm_eq1 (by omega), sm_eq1 (by omega), sm_eq1 (by omega), sm_eq1 (by omega), sm_eq1 (by omega)]
def gQu (T : sT) (a b : Int) : Int := if gTri (nQ T) a = 0 then (if 0 ≤ b ∧ b ≤ 9 then 0 else 2) else 1
theorem gQu_0 {T : sT} {a b : Int} : gQu T a b = 0 ↔ gTri (nQ T) a = 0 ∧ 0 ≤ b ∧ b ≤ 9 := by
  unfold gQu
  split
  · next g => split <;> simp_all
  · next g => simp [g]
theorem gQu_1 {T : sT} {a b : Int} (h : ¬ gTri (nQ T) a = 0) : gQu T a b = 1 := by unfold gQu; rw [if_neg h]
theorem gQu_2 {T : sT} {a b : Int} (h : gTri (nQ T) a = 0) (h2 : ¬ (0 ≤ b ∧ b ≤ 9)) : gQu T a b = 2 := by unfold gQu; rw [if_pos h, if_neg h2]
def quV (T : sT) (q w : Nat) : Int := if w < 4 then (((qL T (cQ2 T q)).getD w 0 : Nat) : Int) else memN (qU T (cQ2 T q)) (w - 4)
theorem u132 : bUp 0 am_m132.1 = true := by decide +kernel
theorem k_132E {d V n : Nat} {h : Nat → sR} {sv : Option sR} {T : sT} {ty : Nat → Int} {hp : amH} {R : xQ} {a b : Int32} (hH : bHk 84 bTT hp) (hS : clS hp (V, T, ty) n h sv)
    (hT : ∀ E hp1, bHk 84 bTT hp1 → cF hp hp1 → clS hp1 (V, T, ty) n h sv → ¬ gQu T a.toInt b.toInt = 0 → ((gQu T a.toInt b.toInt = 1 ∧ E = 1) ∨ (gQu T a.toInt b.toInt = 2 ∧ E = 0)) → R (.inr E) hp1)
    (hR : ∀ (z : Int32) hp1, bHk 84 bTT hp1 → cF hp hp1 → gQu T a.toInt b.toInt = 0 → clS hp1 (V, T, ty) n h sv → z.toInt = quV T a.toInt.toNat b.toInt.toNat → R (.inl (some (.int z))) hp1) : xK (d + 5) 132 [.ref 0, .int a, .int b] hp R := by
  have hB : bdOk hp 3 V T := hS.1
  have b0 : rN hp 3 0 = (V : Int) := hB.1
  have hL : lsN hp 3 T 225 := hS.2.1
  have b1 : rN hp 3 1 = (((trL T 225).length : Nat) : Int) := hL.1
  have hT0 : sOk V T := hB.2.1
  have h15 : V ≤ 15 := hT0.2.1
  have l35 : (trL T 225).length ≤ 35 := trL_35 hT0 225
  have nq0 : rN hp 49 0 = ((nQ T : Nat) : Int) := hS.2.2.1.1
  refine xin (M := am_m132) rfl rfl rfl ?_
  refine xald 1 ⟨u132, _, rfl⟩ rfl rfl ?_
  refine xild 2 ⟨u132, _, rfl⟩ rfl rfl ?_
  refine xcallT 5 (o := 0) [.int _] [] hH ⟨u132, _, rfl⟩ rfl rfl (by decide) rfl (by decide) rfl ⟨rfl, rfl, rfl, rfl⟩ rfl (k_rqQ (n := nQ T) hH nq0 (fun g2 => Or.inl ⟨_, rfl, ?_⟩) (fun g2 => Or.inr ⟨_, rfl, rfl, hT _ hp hH cF.refl hS (by rw [gQu_1 (by omega)]; decide) (Or.inl ⟨gQu_1 (by omega), rfl⟩)⟩))
  have k2 := gTri_0.mp g2
  obtain ⟨q1, q2, q3, q4, q5, q6, q7⟩ := qd_at hT0 hS.2.2.1 (q := a.toInt.toNat) (show a.toInt.toNat < nQ T by omega) rfl
  refine xild 6 ⟨u132, _, rfl⟩ rfl rfl ?_
  refine xif_lt 9 ⟨u132, _, rfl⟩ rfl (fun c6 => ?_) (fun c6 => ?_)
  · exact xthr ⟨u132, _, rfl⟩ (by decide) rfl (by decide) (hT _ hp hH cF.refl hS (by rw [gQu_2 g2 (by omega)]; decide) (Or.inr ⟨gQu_2 g2 (by omega), rfl⟩))
  · refine xild 10 ⟨u132, _, rfl⟩ rfl rfl ?_
    refine xbip 12 (9) ⟨u132, _, rfl⟩ rfl (by decide) (fun z10 h10 => ?_)
    refine xcmp_le 15 ⟨u132, _, rfl⟩ rfl (fun c12 => ?_) (fun c12 => ?_)
    · refine xild 26 ⟨u132, _, rfl⟩ rfl rfl ?_
      refine xcst 27 (4) ⟨u132, _, rfl⟩ rfl (by decide) (fun z26 h26 => ?_)
      refine xcmp_ge 30 ⟨u132, _, rfl⟩ rfl (fun c27 => ?_) (fun c27 => ?_)
      · refine xald 43 ⟨u132, _, rfl⟩ rfl rfl ?_
        refine xgetD 46 (49) hH ⟨u132, _, rfl⟩ rfl (by decide) (by decide) rfl rfl (by decide) ?_
        refine xild 47 ⟨u132, _, rfl⟩ rfl rfl ?_
        refine xcallC 50 (o := 49) [.int _] [] hH ⟨u132, _, rfl⟩ rfl rfl (by decide) rfl (by decide) rfl ⟨rfl, rfl, rfl, rfl⟩ rfl (k_ptQ hH (q := a.toInt.toNat) (by omega) q3 (fun z47 h47 => ⟨_, rfl, ?_⟩))
        have h47 : z47.toInt = ((qU T (cQ2 T a.toInt.toNat) : Nat) : Int) := h47.trans q5
        refine xild 51 ⟨u132, _, rfl⟩ rfl rfl ?_
        refine xcst 52 (4) ⟨u132, _, rfl⟩ rfl (by decide) (fun z51 h51 => ?_)
        refine xsub 53 _ ⟨u132, _, rfl⟩ rfl rfl (by omega) (by omega) (fun z52 h52 => ?_)
        refine xcallS 56 [.int _, .int _] [] hH ⟨u132, _, rfl⟩ rfl rfl rfl rfl rfl (k_mem hH h47 (qU_lt hT0 (show a.toInt.toNat < nQ T by omega)) (i := b.toInt.toNat - 4) (by omega) (fun z53 h53 => ⟨_, rfl, ?_⟩))
        exact xret ⟨u132, _, rfl⟩ rfl (hR _ _ hH cF.refl (gQu_0.mpr ⟨g2, by omega, by omega⟩) hS (by unfold quV; rw [if_neg (by omega)]; exact h53))
      · refine xald 31 ⟨u132, _, rfl⟩ rfl rfl ?_
        refine xgetD 34 (49) hH ⟨u132, _, rfl⟩ rfl (by decide) (by decide) rfl rfl (by decide) ?_
        refine xild 35 ⟨u132, _, rfl⟩ rfl rfl ?_
        refine xild 36 ⟨u132, _, rfl⟩ rfl rfl ?_
        refine xcallC 39 (o := 49) [.int _, .int _] [] hH ⟨u132, _, rfl⟩ rfl rfl (by decide) rfl (by decide) rfl ⟨rfl, rfl, rfl, rfl⟩ rfl (k_trQ hH (q := a.toInt.toNat) (i := b.toInt.toNat) (by omega) q3 q4 (by omega) (by show b.toInt.toNat < 4; omega) q6 (by show 4 ≤ 35; decide) (fun z36 h36 => ⟨_, rfl, ?_⟩))
        refine xgoto ⟨u132, _, rfl⟩ ?_
        exact xret ⟨u132, _, rfl⟩ rfl (hR _ _ hH cF.refl (gQu_0.mpr ⟨g2, by omega, by omega⟩) hS (by unfold quV; rw [if_pos (by omega)]; exact h36))
    · exact xthr ⟨u132, _, rfl⟩ (by decide) rfl (by decide) (hT _ hp hH cF.refl hS (by rw [gQu_2 g2 (by omega)]; decide) (Or.inr ⟨gQu_2 g2 (by omega), rfl⟩))
theorem u288 : bUp 0 am_m288.1 = true := by decide +kernel
theorem k_288E {d V n : Nat} {h : Nat → sR} {sv : Option sR} {T : sT} {ty : Nat → Int} {hp : amH} {R : xQ} {a b : Int32} (hH : bHk 84 bTT hp) (hP : P0 hp) (hS : rfS hp (V, T, ty) n h sv)
    (hR : ∀ (z : Int32) hp1, bHk 84 bTT hp1 → P0 hp1 → bFr wM hp hp1 → rN hp1 66 7 = gQu T a.toInt b.toInt → ((¬ gQu T a.toInt b.toInt = 0 ∧ rfS hp1 (V, T, ty) n h sv) ∨ (gQu T a.toInt b.toInt = 0 ∧ rfS hp1 (V, T, ty) n h sv ∧ z.toInt = quV T a.toInt.toNat b.toInt.toNat)) → R (.inl (some (.int z))) hp1) : xK (d + 6) 288 [.ref 66, .int a, .int b] hp R := by
  have hB : rdOk hp V T := rowOk_rd hS.1
  have b0 : rN hp 67 0 = (V : Int) := hB.1
  have hT0 : sOk V T := hB.2.1
  have h15 : V ≤ 15 := hT0.2.1
  have l35 : (trL T 225).length ≤ 35 := trL_35 hT0 225
  refine xin (M := am_m288) rfl rfl rfl ?_
  refine xald 1 ⟨u288, _, rfl⟩ rfl rfl ?_
  refine xild 2 ⟨u288, _, rfl⟩ rfl rfl ?_
  refine xcall 5 [.ref 66, .int _] [] hH ⟨u288, _, rfl⟩ rfl rfl rfl rfl rfl (k_gqd hH hB (fun z2 hp2 hH2 F2 B2 L2 Q2 t2 o2 => ⟨_, rfl, ?_⟩))
  have S2 := rfS_W hS F2 (fun _ => rfl) rfl rfl (fun _ => rfl) (fun _ => rfl)
  have P2 : P0 hp2 := P0_W (W := (66, 7) :: wLQE) (by decide) F2 hP
  refine xif_ne 8 ⟨u288, _, rfl⟩ rfl (fun c5 => ?_) (fun c5 => ?_)
  · refine xcst 32 (0) ⟨u288, _, rfl⟩ rfl (by decide) (fun z31 h31 => ?_)
    exact xret ⟨u288, _, rfl⟩ rfl (hR _ hp2 hH2 P2 (bFr_sub F2 (by decide)) (by rw [t2, gQu_1 (by omega)]; omega) (Or.inl ⟨by rw [gQu_1 (by omega)]; decide, S2⟩))
  · have g2 : gTri (nQ T) a.toInt = 0 := by omega
    have k2 := gTri_0.mp g2
    refine xald 9 ⟨u288, _, rfl⟩ rfl rfl ?_
    refine xild 10 ⟨u288, _, rfl⟩ rfl rfl ?_
    refine xcst 11 (0) ⟨u288, _, rfl⟩ rfl (by decide) (fun z10 h10 => ?_)
    refine xbip 13 (9) ⟨u288, _, rfl⟩ rfl (by decide) (fun z11 h11 => ?_)
    refine xcallS 16 [.int _, .int _, .int _] [.ref 66] hH2 ⟨u288, _, rfl⟩ rfl rfl rfl rfl rfl (k_inr (fun z13 h13 => ⟨_, rfl, ?_⟩))
    refine xif_ne 19 ⟨u288, _, rfl⟩ rfl (fun c16 => ?_) (fun c16 => ?_)
    · refine xcst 24 (0) ⟨u288, _, rfl⟩ rfl (by decide) (fun z23 h23 => ?_)
      refine xcst 25 (2) ⟨u288, _, rfl⟩ rfl (by decide) (fun z24 h24 => ?_)
      refine xcall 28 [.ref 66, .int _, .int _] [] hH2 ⟨u288, _, rfl⟩ rfl rfl rfl rfl rfl (k_failsE hH2 (by omega) (fun hp25 hH25 V25 => ⟨_, rfl, ?_⟩))
      refine xif_eq 31 ⟨u288, _, rfl⟩ rfl (fun c28 => ?_) (fun c28 => ?_)
      · have hpe : hp2 = hp25 := by
          rcases V25 with ⟨q1, e⟩ | ⟨q1, -⟩
          · exact e.symm
          · omega
        subst hpe
        have g0 : gQu T a.toInt b.toInt = 0 := gQu_0.mpr ⟨g2, by omega, by omega⟩
        have hq0 : a.toInt.toNat < nQ T := by omega
        obtain ⟨f1, f2, -⟩ := fL_get 42875 a.toInt.toNat (show a.toInt.toNat < (fL (qdB T) 42875).length by omega)
        have qr := (rq_get hT0 Q2 hq0).1
        have l105 : nQ T ≤ 105 := q105 hT0
        refine xild 34 ⟨u288, _, rfl⟩ rfl rfl ?_
        refine xcst 35 (4) ⟨u288, _, rfl⟩ rfl (by decide) (fun z34 h34 => ?_)
        refine xcmp_ge 38 ⟨u288, _, rfl⟩ rfl (fun c35 => ?_) (fun c35 => ?_)
        · refine xald 52 ⟨u288, _, rfl⟩ rfl rfl ?_
          refine xald 53 ⟨u288, _, rfl⟩ rfl rfl ?_
          refine xild 54 ⟨u288, _, rfl⟩ rfl rfl ?_
          refine xcall 57 [.ref 66, .int _] [.ref 66] hH25 ⟨u288, _, rfl⟩ rfl rfl rfl rfl rfl (k_qpE hH25 hT0 L2 Q2 (q := a.toInt.toNat) hq0 (by omega) (fun z54 h54 => ⟨_, rfl, ?_⟩))
          refine xild 58 ⟨u288, _, rfl⟩ rfl rfl ?_
          refine xcst 59 (4) ⟨u288, _, rfl⟩ rfl (by decide) (fun z58 h58 => ?_)
          refine xsub 60 _ ⟨u288, _, rfl⟩ rfl rfl (by omega) (by omega) (fun z59 h59 => ?_)
          refine xcall 63 [.ref 66, .int _, .int _] [] hH25 ⟨u288, _, rfl⟩ rfl rfl rfl rfl rfl (k_287E hH25 h54 (qU_lt hT0 hq0) (i := b.toInt.toNat - 4) (by omega) (by rw [qU_6 hT0 f2 f1]; omega) (fun z60 h60 => ⟨_, rfl, ?_⟩))
          exact xret ⟨u288, _, rfl⟩ rfl (hR _ hp2 hH25 P2 (bFr_sub F2 (by decide)) (by rw [t2, g0]; exact g2) (Or.inr ⟨g0, S2, by unfold quV; rw [if_neg (by omega)]; exact h60⟩))
        · refine xald 39 ⟨u288, _, rfl⟩ rfl rfl ?_
          refine xgetR 42 76 hH25 ⟨u288, _, rfl⟩ rfl rfl ?_
          refine xcst 43 (4) ⟨u288, _, rfl⟩ rfl (by decide) (fun z42 h42 => ?_)
          refine xild 44 ⟨u288, _, rfl⟩ rfl rfl ?_
          refine xmul 45 (4 * Int32.toInt a) ⟨u288, _, rfl⟩ rfl (by rw [h42]) (by omega) (by omega) (fun z44 h44 => ?_)
          refine xild 46 ⟨u288, _, rfl⟩ rfl rfl ?_
          refine xadd 47 _ ⟨u288, _, rfl⟩ rfl rfl (by omega) (by omega) (fun z46 h46 => ?_)
          refine xiald 48 (z46).toInt.toNat hH25 ⟨u288, _, rfl⟩ rfl (by decide) rfl (by omega) (by omega) (fun z47 h47 => ?_)
          refine xgoto ⟨u288, _, rfl⟩ ?_
          exact xret ⟨u288, _, rfl⟩ rfl (hR _ hp2 hH25 P2 (bFr_sub F2 (by decide)) (by rw [t2, g0]; exact g2) (Or.inr ⟨g0, S2, by unfold quV; rw [if_pos (by omega), ← qr b.toInt.toNat (by omega), h47]; congr 1; omega⟩))
      · rcases V25 with ⟨q1, -⟩ | ⟨q1, -⟩ <;> omega
    · refine xcst 20 (1) ⟨u288, _, rfl⟩ rfl (by decide) (fun z19 h19 => ?_)
      refine xgoto ⟨u288, _, rfl⟩ ?_
      refine xcst 25 (2) ⟨u288, _, rfl⟩ rfl (by decide) (fun z24 h24 => ?_)
      refine xcall 28 [.ref 66, .int _, .int _] [] hH2 ⟨u288, _, rfl⟩ rfl rfl rfl rfl rfl (k_failsE hH2 (by omega) (fun hp25 hH25 V25 => ⟨_, rfl, ?_⟩))
      refine xif_eq 31 ⟨u288, _, rfl⟩ rfl (fun c28 => ?_) (fun c28 => ?_)
      · rcases V25 with ⟨q1, -⟩ | ⟨q1, -⟩ <;> omega
      · refine xcst 32 (0) ⟨u288, _, rfl⟩ rfl (by decide) (fun z31 h31 => ?_)
        rcases V25 with ⟨q1, -⟩ | ⟨q1, U⟩
        · omega
        · have g1 := gQu_2 (T := T) g2 (show ¬ (0 ≤ b.toInt ∧ b.toInt ≤ 9) by omega)
          exact xret ⟨u288, _, rfl⟩ rfl (hR _ hp25 hH25 (P0_W (W := [(66, 7)]) (by decide) (rU_fr U rfl) P2) ((bFr_sub F2 (by decide)).trans (rU_fr U (by decide))) (by rw [U.1, g1]; omega) (Or.inl ⟨by rw [g1]; decide, rfS_W (W := [(66, 7)]) S2 (rU_fr U rfl) (fun _ => rfl) rfl rfl (fun _ => rfl) (fun _ => rfl)⟩))
theorem h358E {d : Nat} {hp : amH} {R : cQ} {x1 x2 : Int32} {V n : Nat} {h : Nat → sR} {sv : Option sR} {T : sT} {ty : Nat → Int} (hI : lawI hp) (c : clS hp (V, T, ty) n h sv) (r : rfS hp (V, T, ty) n h sv)
    (hR : ∀ (z : Int32) hp1 mc ms, lawI hp1 → rfS hp1 (V, T, ty) n h sv → z.toInt = gQu T x1.toInt x2.toInt → ((¬ gQu T x1.toInt x2.toInt = 0 ∧ clS hp1 (V, T, ty) n h sv) ∨ (gQu T x1.toInt x2.toInt = 0 ∧ clS hp1 (V, T, ty) n h sv ∧ rJ hp1 83 0 = quV T x1.toInt.toNat x2.toInt.toNat)) → mc ≤ 1 → ms ≤ 6 → R (.inl (some (.int z))) hp1 mc ms) : cK (d + 20) 358 [.ref 0, .int x1, .int x2, .ref 83] hp R := by
  refine cin (M := am_m358) rfl rfl rfl ?_
  refine cald 1 ⟨u358J, _, rfl⟩ rfl rfl ?_
  refine ccst 2 (0) ⟨u358J, _, rfl⟩ rfl (by decide) (fun z1 h1 => ?_)
  refine cald 3 ⟨u358J, _, rfl⟩ rfl rfl ?_
  refine cild 4 ⟨u358J, _, rfl⟩ rfl rfl ?_
  refine cild 5 ⟨u358J, _, rfl⟩ rfl rfl ?_
  refine ccall (kd := 0) (t := 2) [.ref 0, .int _, .int _] [.int _, .ref 83] hI.1 ⟨u358J, _, rfl⟩ (Or.inl ⟨_, rfl, rfl, by decide, by decide⟩) rfl rfl rfl ⟨rfl, rfl, rfl⟩ rfl (recv0 hI.1 _) rfl (qKE (Φ := fun z hp1 => bHk 84 bTT hp1 ∧ cF hp hp1 ∧ gQu T x1.toInt x2.toInt = 0 ∧ clS hp1 (V, T, ty) n h sv ∧ z.toInt = quV T x1.toInt.toNat x2.toInt.toNat) (Ψ := fun E hp1 => lawI hp1 ∧ rfS hp1 (V, T, ty) n h sv ∧ clS hp1 (V, T, ty) n h sv ∧ ¬ gQu T x1.toInt x2.toInt = 0 ∧ ((gQu T x1.toInt x2.toInt = 1 ∧ E = 1) ∨ (gQu T x1.toInt x2.toInt = 2 ∧ E = 0))) (fun R g1 g2 => k_132E (d := d + 14) hI.1 c (fun E hp1 b1 b2 b3 e1 e2 => g2 E hp1 ⟨law_cl hI b1 b2, cF_rf b2 r, b3, e1, e2⟩) (fun z hp1 a1 a2 a3 a4 a5 => g1 z hp1 ⟨a1, a2, a3, a4, a5⟩)) (fun z hp1 φ => Or.inl ⟨_, rfl, ?_⟩) (fun E hp1 ψ => Or.inr ?_))
  · refine ci2lE 9 ⟨u358J, _, rfl⟩ rfl (fun w hw => ?_)
    refine clastE 10 φ.1 ⟨u358J, _, rfl⟩ rfl h1 (fun hp2 hH2 F2 J2 => ?_)
    refine cgoto ⟨u358J, _, rfl⟩ ?_
    refine ccst 22 (0) ⟨u358J, _, rfl⟩ rfl (by decide) (fun z9 h9 => ?_)
    exact cret ⟨u358J, _, rfl⟩ (Or.inl rfl) (hR _ _ _ _ (lawI_83 (law_cl hI φ.1 φ.2.1) hH2 F2) (rf_83 F2 (cF_rf φ.2.1 r)) (by rw [φ.2.2.1]; exact h9) (Or.inr ⟨φ.2.2.1, cl_83 F2 φ.2.2.2.1, by rw [J2, hw]; exact φ.2.2.2.2⟩) (by decide) (by decide))
  · obtain ⟨ψ0, ψr, ψc, ψ1, ψ2⟩ := ψ
    rcases ψ2 with ⟨ce, rfl⟩ | ⟨ce, rfl⟩
    · refine ⟨1, 13, 4, 15, rfl, rfl, rfl, rfl, ?_⟩
      refine ccst 16 (1) ⟨u358J, _, rfl⟩ rfl (by decide) (fun z9 h9 => ?_)
      exact cret ⟨u358J, _, rfl⟩ (Or.inl rfl) (hR _ _ _ _ ψ0 ψr (by rw [ce]; exact h9) (Or.inl ⟨ψ1, ψc⟩) (by decide) (by decide))
    · refine ⟨0, 17, 4, 19, rfl, rfl, rfl, rfl, ?_⟩
      refine ccst 20 (2) ⟨u358J, _, rfl⟩ rfl (by decide) (fun z9 h9 => ?_)
      exact cret ⟨u358J, _, rfl⟩ (Or.inl rfl) (hR _ _ _ _ ψ0 ψr (by rw [ce]; exact h9) (Or.inl ⟨ψ1, ψc⟩) (by decide) (by decide))
end
/-! ##### q22 ##### -/
section
/-! ===== opposite on both sides ===== -/
def gOp (V : Nat) (T : sT) (a b : Int) : Int := if gTri (nQ T) a = 0 then gPt V b else 1
theorem gOp_0 {V : Nat} {T : sT} {a b : Int} : gOp V T a b = 0 ↔ gTri (nQ T) a = 0 ∧ gPt V b = 0 := by
  unfold gOp
  split
  · next g => simp [g]
  · next g => simp [g]
theorem gOp_1 {V : Nat} {T : sT} {a b : Int} (h : ¬ (gTri (nQ T) a = 0 ∧ gPt V b = 0)) : gOp V T a b = 1 := by
  unfold gOp
  split
  · next g => exact gPt_12.resolve_left (fun z => h ⟨g, z⟩)
  · rfl
def opV (T : sT) (q u : Nat) : Int := if (qU T (cQ2 T q)).testBit u = true then ((oppQ T (cQ2 T q) u : Nat) : Int) else -1
/-- a point of a quadrilateral and its opposite -/
theorem op_at {V : Nat} {T : sT} (hT : sOk V T) {n u : Nat} (hn : n < 42875) (h : qdB T n = true) (hu : (qU T n).testBit u = true) : opL T n u = 2 ^ oppQ T n u ∧ oppQ T n u < V ∧ lfL u (qU T n) (qG T n) = opL T n u := by
  obtain ⟨p, a, b, c, d, e, hV, h6, eG, eC, hU, -⟩ := qd_all hT hn h
  have k := opL_6 (V := V) h6 eG hU hu
  have k2 : oppQ T n u = o6 p a b c d e u := by unfold oppQ; rw [k, Nat.log2_two_pow]
  refine ⟨by rw [k2]; exact k, ?_, ?_⟩
  · rw [k2]
    unfold o6
    split
    · omega
    · split
      · omega
      · split
        · omega
        · split
          · omega
          · split <;> omega
  · have hold : ∃ m, m ∈ qG T n ∧ m.testBit u = true := by
      rw [eG]
      rcases (hU u).mp hu with z | z | z | z | z | z
      · exact ⟨m3 p a b, by simp, by rw [m3_test]; exact decide_eq_true (Or.inl z)⟩
      · exact ⟨m3 p a b, by simp, by rw [m3_test]; exact decide_eq_true (Or.inr (Or.inl z))⟩
      · exact ⟨m3 p a b, by simp, by rw [m3_test]; exact decide_eq_true (Or.inr (Or.inr z))⟩
      · exact ⟨m3 p c d, by simp, by rw [m3_test]; exact decide_eq_true (Or.inr (Or.inl z))⟩
      · exact ⟨m3 p c d, by simp, by rw [m3_test]; exact decide_eq_true (Or.inr (Or.inr z))⟩
      · exact ⟨m3 a c e, by simp, by rw [m3_test]; exact decide_eq_true (Or.inr (Or.inr z))⟩
    obtain ⟨m, hm, hmu⟩ := hold
    apply Nat.eq_of_testBit_eq
    intro v
    unfold opL
    rw [Bool.eq_iff_iff, lfL_test, lfL_test, nd_test, p2_test]
    constructor
    · intro z
      refine ⟨?_, z.2⟩
      have : ¬ v = u := fun w => z.2 m hm hmu (by rw [w]; exact hmu)
      simp [z.1, this]
    · intro z
      exact ⟨(Bool.and_eq_true _ _ ▸ z.1).1, z.2⟩
theorem mem_pow : ∀ i : Fin 15, memN (2 ^ i.1) 0 = (i.1 : Int) := by decide +kernel
theorem u61 : bUp 0 am_m61.1 = true := by decide +kernel
theorem l61E {d q n u V : Nat} {T : sT} {hp : amH} {R : xQ} {a b : Int32} (hT : sOk V T) (hH : bHk 84 bTT hp) (hQ : qdN hp T 42875) (hL : lsN hp 3 T 225) (hq : q < nQ T) (hn : cQ2 T q = n) (ha : a.toInt = (q : Int)) (hb : b.toInt = (u : Int)) (hu15 : u < 15) (hu : (qU T n).testBit u = true)
    (hR : ∀ z : Int32, z.toInt = ((oppQ T n u : Nat) : Int) → R (.inl (some (.int z))) hp) :
    ∀ (jj t : Nat) (w wt : Int32) (v6 : Option Value), wt.toInt = (t : Int) → t + jj = 4 → w.toInt = ((lfL u (qU T n) ((qG T n).take t) : Nat) : Int) → xV (d + 2) am_m61 24 [some (.ref 49), some (.ref 3), some (.int a), some (.int b), some (.int w), some (.int wt), v6] [] hp R := by
  obtain ⟨q1, q2, q3, q4, q5, q6, q7⟩ := qd_at hT hQ hq hn
  have ul : qU T n < 32768 := by rw [← hn]; exact qU_lt hT hq
  obtain ⟨o1, o2, o3⟩ := op_at hT q1 q2 hu
  have h15 := hT.2.1
  intro jj
  induction jj with
  | zero =>
    intro t w wt v6 hwt hj hw
    have et : t = 4 := by omega
    rw [et, show (qG T n).take 4 = qG T n from rfl, o3, o1] at hw
    have mp := mem_pow ⟨oppQ T n u, by omega⟩
    have mp : memN (2 ^ oppQ T n u) 0 = ((oppQ T n u : Nat) : Int) := mp
    have pl : 2 ^ oppQ T n u < 32768 := Nat.lt_of_lt_of_le (Nat.pow_lt_pow_right (by decide) (show oppQ T n u < 15 by omega)) (by decide)
    refine xild2 26 ⟨u61, _, rfl⟩ rfl rfl ?_
    refine xcst 27 (4) ⟨u61, _, rfl⟩ rfl (by decide) (fun z26 h26 => ?_)
    refine xcmp_ge 30 ⟨u61, _, rfl⟩ rfl (fun c27 => ?_) (fun c27 => ?_)
    · refine xild2 69 ⟨u61, _, rfl⟩ rfl rfl ?_
      refine xcst 70 (0) ⟨u61, _, rfl⟩ rfl (by decide) (fun z69 h69 => ?_)
      refine xcallS 73 [.int _, .int _] [] hH ⟨u61, _, rfl⟩ rfl rfl rfl rfl rfl (k_mem hH hw pl (i := 0) (by omega) (fun z70 h70 => ⟨_, rfl, ?_⟩))
      exact xret ⟨u61, _, rfl⟩ rfl (hR _ (by rw [h70, mp]))
    · omega
  | succ jj ih =>
    intro t w wt v6 hwt hj hw
    have tl : t < (qL T n).length := by show t < 4; omega
    have tg : t < (qG T n).length := by show t < 4; omega
    have gg := qC_get (T := T) (n := n) (show t < 4 by omega)
    have lt := q7 ((qL T n).getD t 0) (by rw [List.getD_eq_getElem?_getD, List.getElem?_eq_getElem tl]; exact List.getElem_mem _)
    have ml := (mN_lt hT lt).1
    have wl : lfL u (qU T n) ((qG T n).take t) < 32768 := lfL_lt ul
    have ap : lfL u (qU T n) ((qG T n).take (t + 1)) = if (mN T ((qL T n).getD t 0)).testBit u = true then ndif (lfL u (qU T n) ((qG T n).take t)) (mN T ((qL T n).getD t 0)) else lfL u (qU T n) ((qG T n).take t) := by
      rw [tk_succ tg, gg.2, lfL_app]
    refine xild2 26 ⟨u61, _, rfl⟩ rfl rfl ?_
    refine xcst 27 (4) ⟨u61, _, rfl⟩ rfl (by decide) (fun z26 h26 => ?_)
    refine xcmp_ge 30 ⟨u61, _, rfl⟩ rfl (fun c27 => ?_) (fun c27 => ?_)
    · omega
    · refine xald 31 ⟨u61, _, rfl⟩ rfl rfl ?_
      refine xald 32 ⟨u61, _, rfl⟩ rfl rfl ?_
      refine xild 33 ⟨u61, _, rfl⟩ rfl rfl ?_
      refine xild2 35 ⟨u61, _, rfl⟩ rfl rfl ?_
      refine xcallC 38 (o := 49) [.int _, .int _] [.ref 3] hH ⟨u61, _, rfl⟩ rfl rfl (by decide) rfl (by decide) rfl ⟨rfl, rfl, rfl, rfl⟩ rfl (k_trQ hH ha q3 q4 hwt tl q6 (show 4 ≤ 35 by decide) (fun z35 h35 => ⟨_, rfl, ?_⟩))
      refine xcallC 41 (o := 3) [.int _] [] hH ⟨u61, _, rfl⟩ rfl rfl (by decide) rfl (by decide) rfl ⟨rfl, rfl, rfl, rfl⟩ rfl (k_setL hH hL h35 lt (fun z38 h38 => ⟨_, rfl, ?_⟩))
      refine xist2 43 ⟨u61, _, rfl⟩ rfl rfl ?_
      refine xild2 45 ⟨u61, _, rfl⟩ rfl rfl ?_
      refine xild 46 ⟨u61, _, rfl⟩ rfl rfl ?_
      refine xcallS 49 [.int _, .int _] [] hH ⟨u61, _, rfl⟩ rfl rfl rfl rfl rfl (k_has h38 ml hb hu15 (fun z46 h46 => ⟨_, rfl, ?_⟩))
      have h46 : (z46.toInt = 1 ∧ (mN T ((qL T n).getD t 0)).testBit u = true) ∨ (z46.toInt = 0 ∧ ¬ (mN T ((qL T n).getD t 0)).testBit u = true) := by
        by_cases q : (mN T ((qL T n).getD t 0)).testBit u = true
        · left; rw [h46, if_pos q]; exact ⟨rfl, q⟩
        · right; rw [h46, if_neg q]; exact ⟨rfl, q⟩
      refine xif_eq 52 ⟨u61, _, rfl⟩ rfl (fun c49 => ?_) (fun c49 => ?_)
      · refine xinc 64 (1) ⟨u61, _, rfl⟩ rfl rfl rfl (by decide) (by omega) (by omega) (fun z61 h61 => ?_)
        refine xgoto ⟨u61, _, rfl⟩ ?_
        have s0 : ¬ (mN T ((qL T n).getD t 0)).testBit u = true := by
          rcases h46 with ⟨q, -⟩ | ⟨-, q⟩
          · omega
          · exact q
        rw [if_neg s0] at ap
        exact ih (t + 1) _ _ _ (by omega) (by omega) (by rw [ap]; exact hw)
      · refine xild2 54 ⟨u61, _, rfl⟩ rfl rfl ?_
        refine xild2 56 ⟨u61, _, rfl⟩ rfl rfl ?_
        refine xcst 57 (-1) ⟨u61, _, rfl⟩ rfl (by decide) (fun z56 h56 => ?_)
        refine xxor 58 ⟨u61, _, rfl⟩ rfl ?_
        refine xand 59 ⟨u61, _, rfl⟩ rfl ?_
        have e58 := i_nd hw h38 wl (by omega) h56
        refine xist2 61 ⟨u61, _, rfl⟩ rfl rfl ?_
        refine xinc 64 (1) ⟨u61, _, rfl⟩ rfl rfl rfl (by decide) (by omega) (by omega) (fun z61 h61 => ?_)
        refine xgoto ⟨u61, _, rfl⟩ ?_
        have s1 : (mN T ((qL T n).getD t 0)).testBit u = true := by
          rcases h46 with ⟨-, q⟩ | ⟨q, -⟩
          · exact q
          · omega
        rw [if_pos s1] at ap
        exact ih (t + 1) _ _ _ (by omega) (by omega) (by rw [ap]; exact e58)
theorem k_61E {d q n u V : Nat} {T : sT} {hp : amH} {R : xQ} {a b : Int32} (hT : sOk V T) (hH : bHk 84 bTT hp) (hQ : qdN hp T 42875) (hL : lsN hp 3 T 225) (hq : q < nQ T) (hn : cQ2 T q = n) (ha : a.toInt = (q : Int)) (hb : b.toInt = (u : Int)) (hu15 : u < 15)
    (hR : ∀ z : Int32, z.toInt = opV T q u → R (.inl (some (.int z))) hp) : xK (d + 2) 61 [.ref 49, .ref 3, .int a, .int b] hp R := by
  obtain ⟨q1, q2, q3, q4, q5, q6, q7⟩ := qd_at hT hQ hq hn
  have ul : qU T n < 32768 := by rw [← hn]; exact qU_lt hT hq
  refine xin (M := am_m61) rfl rfl rfl ?_
  refine xald 1 ⟨u61, _, rfl⟩ rfl rfl ?_
  refine xild 2 ⟨u61, _, rfl⟩ rfl rfl ?_
  refine xcallC 5 (o := 49) [.int _] [] hH ⟨u61, _, rfl⟩ rfl rfl (by decide) rfl (by decide) rfl ⟨rfl, rfl, rfl, rfl⟩ rfl (k_ptQ hH ha q3 (fun z2 h2 => ⟨_, rfl, ?_⟩))
  have h2 : z2.toInt = ((qU T n : Nat) : Int) := h2.trans q5
  refine xild 6 ⟨u61, _, rfl⟩ rfl rfl ?_
  refine xcallS 9 [.int _, .int _] [] hH ⟨u61, _, rfl⟩ rfl rfl rfl rfl rfl (k_has h2 ul hb hu15 (fun z6 h6 => ⟨_, rfl, ?_⟩))
  have h6 : (z6.toInt = 1 ∧ (qU T n).testBit u = true) ∨ (z6.toInt = 0 ∧ ¬ (qU T n).testBit u = true) := by
    by_cases q : (qU T n).testBit u = true
    · left; rw [h6, if_pos q]; exact ⟨rfl, q⟩
    · right; rw [h6, if_neg q]; exact ⟨rfl, q⟩
  refine xif_ne 12 ⟨u61, _, rfl⟩ rfl (fun c9 => ?_) (fun c9 => ?_)
  · have hu : (qU T n).testBit u = true := by
      rcases h6 with ⟨-, q⟩ | ⟨q, -⟩
      · exact q
      · omega
    refine xald 15 ⟨u61, _, rfl⟩ rfl rfl ?_
    refine xild 16 ⟨u61, _, rfl⟩ rfl rfl ?_
    refine xcallC 19 (o := 49) [.int _] [] hH ⟨u61, _, rfl⟩ rfl rfl (by decide) rfl (by decide) rfl ⟨rfl, rfl, rfl, rfl⟩ rfl (k_ptQ hH ha q3 (fun z16 h16 => ⟨_, rfl, ?_⟩))
    have h16 : z16.toInt = ((qU T n : Nat) : Int) := h16.trans q5
    refine xist2 21 ⟨u61, _, rfl⟩ rfl rfl ?_
    refine xcst 22 (0) ⟨u61, _, rfl⟩ rfl (by decide) (fun z21 h21 => ?_)
    refine xist2 24 ⟨u61, _, rfl⟩ rfl rfl ?_
    refine xpad 1 ?_
    exact l61E hT hH hQ hL hq hn ha hb hu15 hu (fun z e => hR z (by unfold opV; rw [hn, if_pos hu]; exact e)) 4 0 _ _ _ h21 (by omega) h16
  · refine xcst 13 (-1) ⟨u61, _, rfl⟩ rfl (by decide) (fun z12 h12 => ?_)
    exact xret ⟨u61, _, rfl⟩ rfl (hR _ (by unfold opV; rw [hn, if_neg (by rcases h6 with ⟨q, -⟩ | ⟨-, q⟩; omega; exact q)]; exact h12))
theorem u133 : bUp 0 am_m133.1 = true := by decide +kernel
theorem k_133E {d V n : Nat} {h : Nat → sR} {sv : Option sR} {T : sT} {ty : Nat → Int} {hp : amH} {R : xQ} {a b : Int32} (hH : bHk 84 bTT hp) (hS : clS hp (V, T, ty) n h sv)
    (hT : ∀ E hp1, bHk 84 bTT hp1 → cF hp hp1 → clS hp1 (V, T, ty) n h sv → ¬ gOp V T a.toInt b.toInt = 0 → ((gOp V T a.toInt b.toInt = 1 ∧ E = 1)) → R (.inr E) hp1)
    (hR : ∀ (z : Int32) hp1, bHk 84 bTT hp1 → cF hp hp1 → gOp V T a.toInt b.toInt = 0 → clS hp1 (V, T, ty) n h sv → z.toInt = opV T a.toInt.toNat b.toInt.toNat → R (.inl (some (.int z))) hp1) : xK (d + 4) 133 [.ref 0, .int a, .int b] hp R := by
  have hB : bdOk hp 3 V T := hS.1
  have b0 : rN hp 3 0 = (V : Int) := hB.1
  have hL : lsN hp 3 T 225 := hS.2.1
  have b1 : rN hp 3 1 = (((trL T 225).length : Nat) : Int) := hL.1
  have hT0 : sOk V T := hB.2.1
  have h15 : V ≤ 15 := hT0.2.1
  have l35 : (trL T 225).length ≤ 35 := trL_35 hT0 225
  have nq0 : rN hp 49 0 = ((nQ T : Nat) : Int) := hS.2.2.1.1
  refine xin (M := am_m133) rfl rfl rfl ?_
  refine xald 1 ⟨u133, _, rfl⟩ rfl rfl ?_
  refine xild 2 ⟨u133, _, rfl⟩ rfl rfl ?_
  refine xcallT 5 (o := 0) [.int _] [] hH ⟨u133, _, rfl⟩ rfl rfl (by decide) rfl (by decide) rfl ⟨rfl, rfl, rfl, rfl⟩ rfl (k_rqQ (n := nQ T) hH nq0 (fun g2 => Or.inl ⟨_, rfl, ?_⟩) (fun g2 => Or.inr ⟨_, rfl, rfl, hT _ hp hH cF.refl hS (by rw [gOp_1 (fun z => by have := z.1; omega)]; decide) ⟨gOp_1 (fun z => by have := z.1; omega), rfl⟩⟩))
  have k2 := gTri_0.mp g2
  refine xald 6 ⟨u133, _, rfl⟩ rfl rfl ?_
  refine xild 7 ⟨u133, _, rfl⟩ rfl rfl ?_
  refine xcallT 10 (o := 0) [.int _] [] hH ⟨u133, _, rfl⟩ rfl rfl (by decide) rfl (by decide) rfl ⟨rfl, rfl, rfl, rfl⟩ rfl (k_rq1 hH b0 (fun g7 => Or.inl ⟨_, rfl, ?_⟩) (fun g7 => Or.inr ⟨_, rfl, rfl, hT _ hp hH cF.refl hS (by rw [gOp_1 (fun z => by have := z.2; omega)]; decide) ⟨gOp_1 (fun z => by have := z.2; omega), rfl⟩⟩))
  have k7 := gPt_0.mp g7
  refine xald 11 ⟨u133, _, rfl⟩ rfl rfl ?_
  refine xgetD 14 (49) hH ⟨u133, _, rfl⟩ rfl (by decide) (by decide) rfl rfl (by decide) ?_
  refine xald 15 ⟨u133, _, rfl⟩ rfl rfl ?_
  refine xgetD 18 (3) hH ⟨u133, _, rfl⟩ rfl (by decide) (by decide) rfl rfl (by decide) ?_
  refine xild 19 ⟨u133, _, rfl⟩ rfl rfl ?_
  refine xild 20 ⟨u133, _, rfl⟩ rfl rfl ?_
  refine xcallC 23 (o := 49) [.ref 3, .int _, .int _] [] hH ⟨u133, _, rfl⟩ rfl rfl (by decide) rfl (by decide) rfl ⟨rfl, rfl, rfl, rfl⟩ rfl (k_61E hT0 hH hS.2.2.1 hL (q := a.toInt.toNat) (u := b.toInt.toNat) (by show a.toInt.toNat < nQ T; omega) rfl (by omega) (by omega) (by omega) (fun z20 h20 => ⟨_, rfl, ?_⟩))
  exact xret ⟨u133, _, rfl⟩ rfl (hR _ _ hH cF.refl (gOp_0.mpr ⟨g2, g7⟩) hS h20)
theorem u289 : bUp 0 am_m289.1 = true := by decide +kernel
theorem k_289E {d V n : Nat} {h : Nat → sR} {sv : Option sR} {T : sT} {ty : Nat → Int} {hp : amH} {R : xQ} {a b : Int32} (hH : bHk 84 bTT hp) (hP : P0 hp) (hS : rfS hp (V, T, ty) n h sv)
    (hR : ∀ (z : Int32) hp1, bHk 84 bTT hp1 → P0 hp1 → bFr wM hp hp1 → rN hp1 66 7 = gOp V T a.toInt b.toInt → ((¬ gOp V T a.toInt b.toInt = 0 ∧ rfS hp1 (V, T, ty) n h sv) ∨ (gOp V T a.toInt b.toInt = 0 ∧ rfS hp1 (V, T, ty) n h sv ∧ z.toInt = opV T a.toInt.toNat b.toInt.toNat)) → R (.inl (some (.int z))) hp1) : xK (d + 6) 289 [.ref 66, .int a, .int b] hp R := by
  have hB : rdOk hp V T := rowOk_rd hS.1
  have b0 : rN hp 67 0 = (V : Int) := hB.1
  have hT0 : sOk V T := hB.2.1
  have h15 : V ≤ 15 := hT0.2.1
  have l35 : (trL T 225).length ≤ 35 := trL_35 hT0 225
  refine xin (M := am_m289) rfl rfl rfl ?_
  refine xald 1 ⟨u289, _, rfl⟩ rfl rfl ?_
  refine xild 2 ⟨u289, _, rfl⟩ rfl rfl ?_
  refine xcall 5 [.ref 66, .int _] [] hH ⟨u289, _, rfl⟩ rfl rfl rfl rfl rfl (k_gqd hH hB (fun z2 hp2 hH2 F2 B2 L2 Q2 t2 o2 => ⟨_, rfl, ?_⟩))
  have S2 := rfS_W hS F2 (fun _ => rfl) rfl rfl (fun _ => rfl) (fun _ => rfl)
  have P2 : P0 hp2 := P0_W (W := (66, 7) :: wLQE) (by decide) F2 hP
  refine xif_ne 8 ⟨u289, _, rfl⟩ rfl (fun c5 => ?_) (fun c5 => ?_)
  · refine xcst 17 (0) ⟨u289, _, rfl⟩ rfl (by decide) (fun z16 h16 => ?_)
    exact xret ⟨u289, _, rfl⟩ rfl (hR _ hp2 hH2 P2 (bFr_sub F2 (by decide)) (by rw [t2, gOp_1 (fun z => by have := z.1; omega)]; omega) (Or.inl ⟨by rw [gOp_1 (fun z => by have := z.1; omega)]; decide, S2⟩))
  · have g2 : gTri (nQ T) a.toInt = 0 := by omega
    have k2 := gTri_0.mp g2
    refine xald 9 ⟨u289, _, rfl⟩ rfl rfl ?_
    refine xild 10 ⟨u289, _, rfl⟩ rfl rfl ?_
    refine xcall 13 [.ref 66, .int _] [] hH2 ⟨u289, _, rfl⟩ rfl rfl rfl rfl rfl (k_gp1 (V := V) hH2 (rowOk_rd S2.1).1 h15 (fun z10 hp10 hH10 F10 t10 o10 => ⟨_, rfl, ?_⟩))
    have S10 := rfS_W S2 F10 (fun _ => rfl) rfl rfl (fun _ => rfl) (fun _ => rfl)
    have P10 : P0 hp10 := P0_W (W := [(66, 7)]) (by decide) F10 P2
    refine xif_eq 16 ⟨u289, _, rfl⟩ rfl (fun c13 => ?_) (fun c13 => ?_)
    · have g10 : gPt V b.toInt = 0 := by omega
      have k10 := gPt_0.mp g10
      have L10 : rlN hp10 T 225 := rlN_fr L2 (r_fr F10 rfl) (fun i => r_fr F10 rfl) (fun i => r_fr F10 rfl) (fun i => r_fr F10 rfl) (fun i => r_fr F10 rfl)
      have Q10 : rqN hp10 T 42875 := rqN_fr Q2 (r_fr F10 rfl) (fun i => r_fr F10 rfl)
      refine xald 19 ⟨u289, _, rfl⟩ rfl rfl ?_
      refine xild 20 ⟨u289, _, rfl⟩ rfl rfl ?_
      refine xcall 23 [.ref 66, .int _] [] hH10 ⟨u289, _, rfl⟩ rfl rfl rfl rfl rfl (k_qpE hH10 hT0 L10 Q10 (q := a.toInt.toNat) (by show a.toInt.toNat < nQ T; omega) (by omega) (fun z20 h20 => ⟨_, rfl, ?_⟩))
      refine xild 24 ⟨u289, _, rfl⟩ rfl rfl ?_
      refine xshr 25 ⟨u289, _, rfl⟩ rfl ?_
      refine xcst 26 (1) ⟨u289, _, rfl⟩ rfl (by decide) (fun z25 h25 => ?_)
      refine xand 27 ⟨u289, _, rfl⟩ rfl ?_
      refine xcst 28 (1) ⟨u289, _, rfl⟩ rfl (by decide) (fun z27 h27 => ?_)
      have eb := i_bit h20 (qU_lt hT0 (show a.toInt.toNat < nQ T by omega)) (show b.toInt = ((b.toInt.toNat : Nat) : Int) by omega) (by omega) h25
      have eb : (((z20 >>> (b &&& 31)) &&& z25).toInt = 1 ∧ (qU T (cQ2 T a.toInt.toNat)).testBit b.toInt.toNat = true) ∨ (((z20 >>> (b &&& 31)) &&& z25).toInt = 0 ∧ ¬ (qU T (cQ2 T a.toInt.toNat)).testBit b.toInt.toNat = true) := by
        by_cases q : (qU T (cQ2 T a.toInt.toNat)).testBit b.toInt.toNat = true
        · left; rw [eb, if_pos q]; exact ⟨rfl, q⟩
        · right; rw [eb, if_neg q]; exact ⟨rfl, q⟩
      refine xcmp_ne 31 ⟨u289, _, rfl⟩ rfl (fun c28 => ?_) (fun c28 => ?_)
      · refine xcst 41 (-1) ⟨u289, _, rfl⟩ rfl (by decide) (fun z40 h40 => ?_)
        exact xret ⟨u289, _, rfl⟩ rfl (hR _ hp10 hH10 P10 ((bFr_sub F2 (by decide)).trans (bFr_sub F10 (by decide))) (by rw [t10, gOp_0.mpr ⟨g2, g10⟩]; exact g10) (Or.inr ⟨gOp_0.mpr ⟨g2, g10⟩, S10, by unfold opV; rw [if_neg (by rcases eb with ⟨q, -⟩ | ⟨-, q⟩; omega; exact q)]; exact h40⟩))
      · have hu : (qU T (cQ2 T a.toInt.toNat)).testBit b.toInt.toNat = true := by
          rcases eb with ⟨-, q⟩ | ⟨q, -⟩
          · exact q
          · omega
        obtain ⟨f1, f2, -⟩ := fL_get (B := qdB T) 42875 a.toInt.toNat (show a.toInt.toNat < nQ T by omega)
        obtain ⟨o1, o2, -⟩ := op_at hT0 f2 f1 hu
        refine xald 32 ⟨u289, _, rfl⟩ rfl rfl ?_
        refine xild 33 ⟨u289, _, rfl⟩ rfl rfl ?_
        refine xild 34 ⟨u289, _, rfl⟩ rfl rfl ?_
        refine xcall 37 [.ref 66, .int _, .int _] [] hH10 ⟨u289, _, rfl⟩ rfl rfl rfl rfl rfl (k_opE hH10 hT0 L10 Q10 (q := a.toInt.toNat) (u := b.toInt.toNat) (by show a.toInt.toNat < nQ T; omega) (by omega) (by omega) (by omega) o1 (by omega) (fun z34 h34 => ⟨_, rfl, ?_⟩))
        refine xgoto ⟨u289, _, rfl⟩ ?_
        exact xret ⟨u289, _, rfl⟩ rfl (hR _ hp10 hH10 P10 ((bFr_sub F2 (by decide)).trans (bFr_sub F10 (by decide))) (by rw [t10, gOp_0.mpr ⟨g2, g10⟩]; exact g10) (Or.inr ⟨gOp_0.mpr ⟨g2, g10⟩, S10, by unfold opV; rw [if_pos hu]; exact h34⟩))
    · refine xcst 17 (0) ⟨u289, _, rfl⟩ rfl (by decide) (fun z16 h16 => ?_)
      exact xret ⟨u289, _, rfl⟩ rfl (hR _ hp10 hH10 P10 ((bFr_sub F2 (by decide)).trans (bFr_sub F10 (by decide))) (by rw [t10, gOp_1 (fun z => by have := z.2; omega)]; omega) (Or.inl ⟨by rw [gOp_1 (fun z => by have := z.2; omega)]; decide, S10⟩))
theorem h359E {d : Nat} {hp : amH} {R : cQ} {x1 x2 : Int32} {V n : Nat} {h : Nat → sR} {sv : Option sR} {T : sT} {ty : Nat → Int} (hI : lawI hp) (c : clS hp (V, T, ty) n h sv) (r : rfS hp (V, T, ty) n h sv)
    (hR : ∀ (z : Int32) hp1 mc ms, lawI hp1 → rfS hp1 (V, T, ty) n h sv → z.toInt = gOp V T x1.toInt x2.toInt → ((¬ gOp V T x1.toInt x2.toInt = 0 ∧ clS hp1 (V, T, ty) n h sv) ∨ (gOp V T x1.toInt x2.toInt = 0 ∧ clS hp1 (V, T, ty) n h sv ∧ rJ hp1 83 0 = opV T x1.toInt.toNat x2.toInt.toNat)) → mc ≤ 1 → ms ≤ 6 → R (.inl (some (.int z))) hp1 mc ms) : cK (d + 20) 359 [.ref 0, .int x1, .int x2, .ref 83] hp R := by
  refine cin (M := am_m359) rfl rfl rfl ?_
  refine cald 1 ⟨u359J, _, rfl⟩ rfl rfl ?_
  refine ccst 2 (0) ⟨u359J, _, rfl⟩ rfl (by decide) (fun z1 h1 => ?_)
  refine cald 3 ⟨u359J, _, rfl⟩ rfl rfl ?_
  refine cild 4 ⟨u359J, _, rfl⟩ rfl rfl ?_
  refine cild 5 ⟨u359J, _, rfl⟩ rfl rfl ?_
  refine ccall (kd := 0) (t := 1) [.ref 0, .int _, .int _] [.int _, .ref 83] hI.1 ⟨u359J, _, rfl⟩ (Or.inl ⟨_, rfl, rfl, by decide, by decide⟩) rfl rfl rfl ⟨rfl, rfl, rfl⟩ rfl (recv0 hI.1 _) rfl (qKE (Φ := fun z hp1 => bHk 84 bTT hp1 ∧ cF hp hp1 ∧ gOp V T x1.toInt x2.toInt = 0 ∧ clS hp1 (V, T, ty) n h sv ∧ z.toInt = opV T x1.toInt.toNat x2.toInt.toNat) (Ψ := fun E hp1 => lawI hp1 ∧ rfS hp1 (V, T, ty) n h sv ∧ clS hp1 (V, T, ty) n h sv ∧ ¬ gOp V T x1.toInt x2.toInt = 0 ∧ ((gOp V T x1.toInt x2.toInt = 1 ∧ E = 1))) (fun R g1 g2 => k_133E (d := d + 15) hI.1 c (fun E hp1 b1 b2 b3 e1 e2 => g2 E hp1 ⟨law_cl hI b1 b2, cF_rf b2 r, b3, e1, e2⟩) (fun z hp1 a1 a2 a3 a4 a5 => g1 z hp1 ⟨a1, a2, a3, a4, a5⟩)) (fun z hp1 φ => Or.inl ⟨_, rfl, ?_⟩) (fun E hp1 ψ => Or.inr ?_))
  · refine ci2lE 9 ⟨u359J, _, rfl⟩ rfl (fun w hw => ?_)
    refine clastE 10 φ.1 ⟨u359J, _, rfl⟩ rfl h1 (fun hp2 hH2 F2 J2 => ?_)
    refine cgoto ⟨u359J, _, rfl⟩ ?_
    refine ccst 18 (0) ⟨u359J, _, rfl⟩ rfl (by decide) (fun z9 h9 => ?_)
    exact cret ⟨u359J, _, rfl⟩ (Or.inl rfl) (hR _ _ _ _ (lawI_83 (law_cl hI φ.1 φ.2.1) hH2 F2) (rf_83 F2 (cF_rf φ.2.1 r)) (by rw [φ.2.2.1]; exact h9) (Or.inr ⟨φ.2.2.1, cl_83 F2 φ.2.2.2.1, by rw [J2, hw]; exact φ.2.2.2.2⟩) (by decide) (by decide))
  · obtain ⟨ψ0, ψr, ψc, ψ1, ψ2⟩ := ψ
    obtain ⟨ce, rfl⟩ := ψ2
    refine ⟨1, 13, 4, 15, rfl, rfl, rfl, rfl, ?_⟩
    refine ccst 16 (1) ⟨u359J, _, rfl⟩ rfl (by decide) (fun z9 h9 => ?_)
    exact cret ⟨u359J, _, rfl⟩ (Or.inl rfl) (hR _ _ _ _ ψ0 ψr (by rw [ce]; exact h9) (Or.inl ⟨ψ1, ψc⟩) (by decide) (by decide))
end
/-! ##### q23 ##### -/
section
/-! ===== quadsAt on both sides ===== -/
/-- how many of the first quadrilaterals hold a point -/
def qaC (T : sT) (p n : Nat) : Nat := sm (fun q => iv ((qU T (cQ2 T q)).testBit p = true)) n
theorem qaC_s {T : sT} {p n : Nat} : qaC T p (n + 1) = qaC T p n + iv ((qU T (cQ2 T n)).testBit p = true) := rfl
theorem qaC_le {T : sT} {p : Nat} : ∀ n, qaC T p n ≤ n
  | 0 => Nat.le_refl _
  | n + 1 => by
    have h1 := qaC_le (T := T) (p := p) n
    have h2 : iv ((qU T (cQ2 T n)).testBit p = true) ≤ 1 := iv_le
    rw [qaC_s]
    omega
theorem u62 : bUp 0 am_m62.1 = true := by decide +kernel
theorem l62E {d p V : Nat} {T : sT} {hp : amH} {R : xQ} {a : Int32} (hT : sOk V T) (hH : bHk 84 bTT hp) (hQ : qdN hp T 42875) (ha : a.toInt = (p : Int)) (hp15 : p < 15)
    (hR : ∀ z : Int32, z.toInt = ((qaC T p (nQ T) : Nat) : Int) → R (.inl (some (.int z))) hp) :
    ∀ (jj t : Nat) (w wt : Int32), wt.toInt = (t : Int) → t + jj = nQ T → w.toInt = ((qaC T p t : Nat) : Int) → xV (d + 1) am_m62 4 [some (.ref 49), some (.int a), some (.int w), some (.int wt)] [] hp R := by
  have l105 : nQ T ≤ 105 := q105 hT
  have L1 : rN hp 49 0 = ((nQ T : Nat) : Int) := hQ.1
  intro jj
  induction jj with
  | zero =>
    intro t w wt hwt hj hw
    have et : nQ T = t := by omega
    have hR2 : ∀ z : Int32, z.toInt = ((qaC T p t : Nat) : Int) → R (.inl (some (.int z))) hp := by rw [← et]; exact hR
    refine xild 5 ⟨u62, _, rfl⟩ rfl rfl ?_
    refine xald 6 ⟨u62, _, rfl⟩ rfl rfl ?_
    refine xgetC 9 hH ⟨u62, _, rfl⟩ rfl (by decide) (by decide) rfl rfl (by decide) (fun z6 h6 => ?_)
    refine xcmp_ge 12 ⟨u62, _, rfl⟩ rfl (fun c9 => ?_) (fun c9 => ?_)
    · refine xild 34 ⟨u62, _, rfl⟩ rfl rfl ?_
      exact xret ⟨u62, _, rfl⟩ rfl (hR2 _ hw)
    · omega
  | succ jj ih =>
    intro t w wt hwt hj hw
    have k2 := qaC_le (T := T) (p := p) t
    have k3 := qaC_s (T := T) (p := p) (n := t)
    obtain ⟨q1, q2, q3, q4, q5, q6, q7⟩ := qd_at hT hQ (q := t) (show t < nQ T by omega) rfl
    have ql := qU_lt hT (q := t) (show t < nQ T by omega)
    refine xild 5 ⟨u62, _, rfl⟩ rfl rfl ?_
    refine xald 6 ⟨u62, _, rfl⟩ rfl rfl ?_
    refine xgetC 9 hH ⟨u62, _, rfl⟩ rfl (by decide) (by decide) rfl rfl (by decide) (fun z6 h6 => ?_)
    refine xcmp_ge 12 ⟨u62, _, rfl⟩ rfl (fun c9 => ?_) (fun c9 => ?_)
    · omega
    · refine xald 13 ⟨u62, _, rfl⟩ rfl rfl ?_
      refine xild 14 ⟨u62, _, rfl⟩ rfl rfl ?_
      refine xcallC 17 (o := 49) [.int _] [] hH ⟨u62, _, rfl⟩ rfl rfl (by decide) rfl (by decide) rfl ⟨rfl, rfl, rfl, rfl⟩ rfl (k_ptQ hH hwt q3 (fun z14 h14 => ⟨_, rfl, ?_⟩))
      have h14 : z14.toInt = ((qU T (cQ2 T t) : Nat) : Int) := h14.trans q5
      refine xild 18 ⟨u62, _, rfl⟩ rfl rfl ?_
      refine xcallS 21 [.int _, .int _] [] hH ⟨u62, _, rfl⟩ rfl rfl rfl rfl rfl (k_has h14 ql ha hp15 (fun z18 h18 => ⟨_, rfl, ?_⟩))
      have h18 : (z18.toInt = 1 ∧ (qU T (cQ2 T t)).testBit p = true) ∨ (z18.toInt = 0 ∧ ¬ (qU T (cQ2 T t)).testBit p = true) := by
        by_cases q : (qU T (cQ2 T t)).testBit p = true
        · left; rw [h18, if_pos q]; exact ⟨rfl, q⟩
        · right; rw [h18, if_neg q]; exact ⟨rfl, q⟩
      refine xif_eq 24 ⟨u62, _, rfl⟩ rfl (fun c21 => ?_) (fun c21 => ?_)
      · refine xinc 30 (1) ⟨u62, _, rfl⟩ rfl rfl rfl (by decide) (by omega) (by omega) (fun z27 h27 => ?_)
        refine xgoto ⟨u62, _, rfl⟩ ?_
        have s0 : ¬ (qU T (cQ2 T t)).testBit p = true := by
          rcases h18 with ⟨q, -⟩ | ⟨-, q⟩
          · omega
          · exact q
        rw [iv_f s0] at k3
        exact ih (t + 1) _ _ (by omega) (by omega) (by omega)
      · refine xinc 27 (1) ⟨u62, _, rfl⟩ rfl rfl rfl (by decide) (by omega) (by omega) (fun z24 h24 => ?_)
        refine xinc 30 (1) ⟨u62, _, rfl⟩ rfl rfl rfl (by decide) (by omega) (by omega) (fun z27 h27 => ?_)
        refine xgoto ⟨u62, _, rfl⟩ ?_
        have s1 : (qU T (cQ2 T t)).testBit p = true := by
          rcases h18 with ⟨-, q⟩ | ⟨q, -⟩
          · exact q
          · omega
        rw [iv_t s1] at k3
        exact ih (t + 1) _ _ (by omega) (by omega) (by omega)
theorem k_62E {d p V : Nat} {T : sT} {hp : amH} {R : xQ} {a : Int32} (hT : sOk V T) (hH : bHk 84 bTT hp) (hQ : qdN hp T 42875) (ha : a.toInt = (p : Int)) (hp15 : p < 15)
    (hR : ∀ z : Int32, z.toInt = ((qaC T p (nQ T) : Nat) : Int) → R (.inl (some (.int z))) hp) : xK (d + 1) 62 [.ref 49, .int a] hp R := by
  refine xin (M := am_m62) rfl rfl rfl ?_
  refine xcst 1 (0) ⟨u62, _, rfl⟩ rfl (by decide) (fun z0 h0 => ?_)
  refine xist 2 ⟨u62, _, rfl⟩ rfl rfl ?_
  refine xcst 3 (0) ⟨u62, _, rfl⟩ rfl (by decide) (fun z2 h2 => ?_)
  refine xist 4 ⟨u62, _, rfl⟩ rfl rfl ?_
  exact l62E hT hH hQ ha hp15 hR (nQ T) 0 _ _ h2 (by omega) h0
theorem u134 : bUp 0 am_m134.1 = true := by decide +kernel
theorem k_134E {d V n : Nat} {h : Nat → sR} {sv : Option sR} {T : sT} {ty : Nat → Int} {hp : amH} {R : xQ} {a : Int32} (hH : bHk 84 bTT hp) (hS : clS hp (V, T, ty) n h sv)
    (hT : ∀ E hp1, bHk 84 bTT hp1 → cF hp hp1 → clS hp1 (V, T, ty) n h sv → ¬ gPt V a.toInt = 0 → ((gPt V a.toInt = 1 ∧ E = 1)) → R (.inr E) hp1)
    (hR : ∀ (z : Int32) hp1, bHk 84 bTT hp1 → cF hp hp1 → gPt V a.toInt = 0 → clS hp1 (V, T, ty) n h sv → z.toInt = ((qaC T a.toInt.toNat (nQ T) : Nat) : Int) → R (.inl (some (.int z))) hp1) : xK (d + 4) 134 [.ref 0, .int a] hp R := by
  have hB : bdOk hp 3 V T := hS.1
  have b0 : rN hp 3 0 = (V : Int) := hB.1
  have hL : lsN hp 3 T 225 := hS.2.1
  have b1 : rN hp 3 1 = (((trL T 225).length : Nat) : Int) := hL.1
  have hT0 : sOk V T := hB.2.1
  have h15 : V ≤ 15 := hT0.2.1
  have l35 : (trL T 225).length ≤ 35 := trL_35 hT0 225
  have nq0 : rN hp 49 0 = ((nQ T : Nat) : Int) := hS.2.2.1.1
  refine xin (M := am_m134) rfl rfl rfl ?_
  refine xald 1 ⟨u134, _, rfl⟩ rfl rfl ?_
  refine xild 2 ⟨u134, _, rfl⟩ rfl rfl ?_
  refine xcallT 5 (o := 0) [.int _] [] hH ⟨u134, _, rfl⟩ rfl rfl (by decide) rfl (by decide) rfl ⟨rfl, rfl, rfl, rfl⟩ rfl (k_rq1 hH b0 (fun g2 => Or.inl ⟨_, rfl, ?_⟩) (fun g2 => Or.inr ⟨_, rfl, rfl, hT _ hp hH cF.refl hS (by omega) ⟨g2, rfl⟩⟩))
  have k2 := gPt_0.mp g2
  refine xald 6 ⟨u134, _, rfl⟩ rfl rfl ?_
  refine xgetD 9 (49) hH ⟨u134, _, rfl⟩ rfl (by decide) (by decide) rfl rfl (by decide) ?_
  refine xild 10 ⟨u134, _, rfl⟩ rfl rfl ?_
  refine xcallC 13 (o := 49) [.int _] [] hH ⟨u134, _, rfl⟩ rfl rfl (by decide) rfl (by decide) rfl ⟨rfl, rfl, rfl, rfl⟩ rfl (k_62E hT0 hH hS.2.2.1 (p := a.toInt.toNat) (by omega) (by omega) (fun z10 h10 => ⟨_, rfl, ?_⟩))
  exact xret ⟨u134, _, rfl⟩ rfl (hR _ _ hH cF.refl g2 hS h10)
theorem u290 : bUp 0 am_m290.1 = true := by decide +kernel
theorem l290E {d p V : Nat} {T : sT} {hp : amH} {R : xQ} {a : Int32} (hT : sOk V T) (hH : bHk 84 bTT hp) (hL : rlN hp T 225) (hQ : rqN hp T 42875) (ha : a.toInt = (p : Int)) (hp15 : p < 15)
    (hR : ∀ z : Int32, z.toInt = ((qaC T p (nQ T) : Nat) : Int) → R (.inl (some (.int z))) hp) :
    ∀ (jj t : Nat) (w wt : Int32), wt.toInt = (t : Int) → t + jj = nQ T → w.toInt = ((qaC T p t : Nat) : Int) → xV (d + 1) am_m290 18 [some (.ref 66), some (.int a), some (.int w), some (.int wt)] [] hp R := by
  have l105 : nQ T ≤ 105 := q105 hT
  have L1 : rN hp 66 14 = ((nQ T : Nat) : Int) := hQ.1
  intro jj
  induction jj with
  | zero =>
    intro t w wt hwt hj hw
    have et : nQ T = t := by omega
    have hR2 : ∀ z : Int32, z.toInt = ((qaC T p t : Nat) : Int) → R (.inl (some (.int z))) hp := by rw [← et]; exact hR
    refine xild 19 ⟨u290, _, rfl⟩ rfl rfl ?_
    refine xald 20 ⟨u290, _, rfl⟩ rfl rfl ?_
    refine xgetI 23 hH ⟨u290, _, rfl⟩ rfl rfl (fun z20 h20 => ?_)
    refine xcmp_ge 26 ⟨u290, _, rfl⟩ rfl (fun c23 => ?_) (fun c23 => ?_)
    · refine xild 45 ⟨u290, _, rfl⟩ rfl rfl ?_
      exact xret ⟨u290, _, rfl⟩ rfl (hR2 _ hw)
    · omega
  | succ jj ih =>
    intro t w wt hwt hj hw
    have k2 := qaC_le (T := T) (p := p) t
    have k3 := qaC_s (T := T) (p := p) (n := t)
    have ql := qU_lt hT (q := t) (show t < nQ T by omega)
    refine xild 19 ⟨u290, _, rfl⟩ rfl rfl ?_
    refine xald 20 ⟨u290, _, rfl⟩ rfl rfl ?_
    refine xgetI 23 hH ⟨u290, _, rfl⟩ rfl rfl (fun z20 h20 => ?_)
    refine xcmp_ge 26 ⟨u290, _, rfl⟩ rfl (fun c23 => ?_) (fun c23 => ?_)
    · omega
    · refine xild 27 ⟨u290, _, rfl⟩ rfl rfl ?_
      refine xald 28 ⟨u290, _, rfl⟩ rfl rfl ?_
      refine xild 29 ⟨u290, _, rfl⟩ rfl rfl ?_
      refine xcall 32 [.ref 66, .int _] [.int _] hH ⟨u290, _, rfl⟩ rfl rfl rfl rfl rfl (k_qpE hH hT hL hQ (q := t) (by omega) hwt (fun z29 h29 => ⟨_, rfl, ?_⟩))
      refine xild 33 ⟨u290, _, rfl⟩ rfl rfl ?_
      refine xshr 34 ⟨u290, _, rfl⟩ rfl ?_
      refine xcst 35 (1) ⟨u290, _, rfl⟩ rfl (by decide) (fun z34 h34 => ?_)
      refine xand 36 ⟨u290, _, rfl⟩ rfl ?_
      have eb := i_bit h29 ql ha hp15 h34
      have eb : (((z29 >>> (a &&& 31)) &&& z34).toInt = 1 ∧ (qU T (cQ2 T t)).testBit p = true) ∨ (((z29 >>> (a &&& 31)) &&& z34).toInt = 0 ∧ ¬ (qU T (cQ2 T t)).testBit p = true) := by
        by_cases q : (qU T (cQ2 T t)).testBit p = true
        · left; rw [eb, if_pos q]; exact ⟨rfl, q⟩
        · right; rw [eb, if_neg q]; exact ⟨rfl, q⟩
      refine xadd 37 _ ⟨u290, _, rfl⟩ rfl rfl (by rcases eb with e | e <;> omega) (by rcases eb with e | e <;> omega) (fun z36 h36 => ?_)
      refine xist 38 ⟨u290, _, rfl⟩ rfl rfl ?_
      refine xinc 41 (1) ⟨u290, _, rfl⟩ rfl rfl rfl (by decide) (by omega) (by omega) (fun z38 h38 => ?_)
      refine xgoto ⟨u290, _, rfl⟩ ?_
      rcases eb with ⟨e1, e2⟩ | ⟨e1, e2⟩
      · rw [iv_t e2] at k3
        exact ih (t + 1) _ _ (by omega) (by omega) (by omega)
      · rw [iv_f e2] at k3
        exact ih (t + 1) _ _ (by omega) (by omega) (by omega)
theorem k_290E {d V n : Nat} {h : Nat → sR} {sv : Option sR} {T : sT} {ty : Nat → Int} {hp : amH} {R : xQ} {a : Int32} (hH : bHk 84 bTT hp) (hP : P0 hp) (hS : rfS hp (V, T, ty) n h sv)
    (hR : ∀ (z : Int32) hp1, bHk 84 bTT hp1 → P0 hp1 → bFr wM hp hp1 → rN hp1 66 7 = gPt V a.toInt → ((¬ gPt V a.toInt = 0 ∧ rfS hp1 (V, T, ty) n h sv) ∨ (gPt V a.toInt = 0 ∧ rfS hp1 (V, T, ty) n h sv ∧ z.toInt = ((qaC T a.toInt.toNat (nQ T) : Nat) : Int))) → R (.inl (some (.int z))) hp1) : xK (d + 6) 290 [.ref 66, .int a] hp R := by
  have hB : rdOk hp V T := rowOk_rd hS.1
  have b0 : rN hp 67 0 = (V : Int) := hB.1
  have hT0 : sOk V T := hB.2.1
  have h15 : V ≤ 15 := hT0.2.1
  have l35 : (trL T 225).length ≤ 35 := trL_35 hT0 225
  refine xin (M := am_m290) rfl rfl rfl ?_
  refine xald 1 ⟨u290, _, rfl⟩ rfl rfl ?_
  refine xild 2 ⟨u290, _, rfl⟩ rfl rfl ?_
  refine xcall 5 [.ref 66, .int _] [] hH ⟨u290, _, rfl⟩ rfl rfl rfl rfl rfl (k_gp1 hH b0 h15 (fun z2 hp2 hH2 F2 t2 o2 => ⟨_, rfl, ?_⟩))
  have S2 := rfS_W hS F2 (fun _ => rfl) rfl rfl (fun _ => rfl) (fun _ => rfl)
  have P2 : P0 hp2 := P0_W (W := [(66, 7)]) (by decide) F2 hP
  refine xif_eq 8 ⟨u290, _, rfl⟩ rfl (fun c5 => ?_) (fun c5 => ?_)
  · have g2 : gPt V a.toInt = 0 := by omega
    have k2 := gPt_0.mp g2
    have B2 : rdOk hp2 V T := rowOk_rd S2.1
    refine xald 11 ⟨u290, _, rfl⟩ rfl rfl ?_
    refine xcall 14 [.ref 66] [] hH2 ⟨u290, _, rfl⟩ rfl rfl rfl rfl rfl (k_lqs hH2 B2 (q105 hT0) (fun hp11 hH11 F11 B11 L11 Q11 => ⟨_, rfl, ?_⟩))
    have S11 := rfS_W S2 F11 (fun _ => rfl) rfl rfl (fun _ => rfl) (fun _ => rfl)
    have P11 : P0 hp11 := P0_W (W := wLQE) (by decide) F11 P2
    refine xcst 15 (0) ⟨u290, _, rfl⟩ rfl (by decide) (fun z14 h14 => ?_)
    refine xist 16 ⟨u290, _, rfl⟩ rfl rfl ?_
    refine xcst 17 (0) ⟨u290, _, rfl⟩ rfl (by decide) (fun z16 h16 => ?_)
    refine xist 18 ⟨u290, _, rfl⟩ rfl rfl ?_
    exact l290E hT0 hH11 L11 Q11 (p := a.toInt.toNat) (by omega) (by omega) (fun z h => hR z hp11 hH11 P11 ((bFr_sub F2 (by decide)).trans (bFr_sub F11 (by decide))) (by rw [show rN hp11 66 7 = rN hp2 66 7 from r_fr F11 rfl]; exact t2) (Or.inr ⟨g2, S11, h⟩)) (nQ T) 0 _ _ h16 (by omega) h14
  · refine xcst 9 (0) ⟨u290, _, rfl⟩ rfl (by decide) (fun z8 h8 => ?_)
    exact xret ⟨u290, _, rfl⟩ rfl (hR _ hp2 hH2 P2 (bFr_sub F2 (by decide)) t2 (Or.inl ⟨by omega, S2⟩))
theorem h360E {d : Nat} {hp : amH} {R : cQ} {x1 : Int32} {V n : Nat} {h : Nat → sR} {sv : Option sR} {T : sT} {ty : Nat → Int} (hI : lawI hp) (c : clS hp (V, T, ty) n h sv) (r : rfS hp (V, T, ty) n h sv)
    (hR : ∀ (z : Int32) hp1 mc ms, lawI hp1 → rfS hp1 (V, T, ty) n h sv → z.toInt = gPt V x1.toInt → ((¬ gPt V x1.toInt = 0 ∧ clS hp1 (V, T, ty) n h sv) ∨ (gPt V x1.toInt = 0 ∧ clS hp1 (V, T, ty) n h sv ∧ rJ hp1 83 0 = ((qaC T x1.toInt.toNat (nQ T) : Nat) : Int))) → mc ≤ 1 → ms ≤ 6 → R (.inl (some (.int z))) hp1 mc ms) : cK (d + 20) 360 [.ref 0, .int x1, .ref 83] hp R := by
  refine cin (M := am_m360) rfl rfl rfl ?_
  refine cald 1 ⟨u360J, _, rfl⟩ rfl rfl ?_
  refine ccst 2 (0) ⟨u360J, _, rfl⟩ rfl (by decide) (fun z1 h1 => ?_)
  refine cald 3 ⟨u360J, _, rfl⟩ rfl rfl ?_
  refine cild 4 ⟨u360J, _, rfl⟩ rfl rfl ?_
  refine ccall (kd := 0) (t := 1) [.ref 0, .int _] [.int _, .ref 83] hI.1 ⟨u360J, _, rfl⟩ (Or.inl ⟨_, rfl, rfl, by decide, by decide⟩) rfl rfl rfl ⟨rfl, rfl, rfl⟩ rfl (recv0 hI.1 _) rfl (qKE (Φ := fun z hp1 => bHk 84 bTT hp1 ∧ cF hp hp1 ∧ gPt V x1.toInt = 0 ∧ clS hp1 (V, T, ty) n h sv ∧ z.toInt = ((qaC T x1.toInt.toNat (nQ T) : Nat) : Int)) (Ψ := fun E hp1 => lawI hp1 ∧ rfS hp1 (V, T, ty) n h sv ∧ clS hp1 (V, T, ty) n h sv ∧ ¬ gPt V x1.toInt = 0 ∧ ((gPt V x1.toInt = 1 ∧ E = 1))) (fun R g1 g2 => k_134E (d := d + 15) hI.1 c (fun E hp1 b1 b2 b3 e1 e2 => g2 E hp1 ⟨law_cl hI b1 b2, cF_rf b2 r, b3, e1, e2⟩) (fun z hp1 a1 a2 a3 a4 a5 => g1 z hp1 ⟨a1, a2, a3, a4, a5⟩)) (fun z hp1 φ => Or.inl ⟨_, rfl, ?_⟩) (fun E hp1 ψ => Or.inr ?_))
  · refine ci2lE 8 ⟨u360J, _, rfl⟩ rfl (fun w hw => ?_)
    refine clastE 9 φ.1 ⟨u360J, _, rfl⟩ rfl h1 (fun hp2 hH2 F2 J2 => ?_)
    refine cgoto ⟨u360J, _, rfl⟩ ?_
    refine ccst 16 (0) ⟨u360J, _, rfl⟩ rfl (by decide) (fun z9 h9 => ?_)
    exact cret ⟨u360J, _, rfl⟩ (Or.inl rfl) (hR _ _ _ _ (lawI_83 (law_cl hI φ.1 φ.2.1) hH2 F2) (rf_83 F2 (cF_rf φ.2.1 r)) (by rw [φ.2.2.1]; exact h9) (Or.inr ⟨φ.2.2.1, cl_83 F2 φ.2.2.2.1, by rw [J2, hw]; exact φ.2.2.2.2⟩) (by decide) (by decide))
  · obtain ⟨ψ0, ψr, ψc, ψ1, ψ2⟩ := ψ
    obtain ⟨ce, rfl⟩ := ψ2
    refine ⟨1, 12, 3, 13, rfl, rfl, rfl, rfl, ?_⟩
    refine ccst 14 (1) ⟨u360J, _, rfl⟩ rfl (by decide) (fun z9 h9 => ?_)
    exact cret ⟨u360J, _, rfl⟩ (Or.inl rfl) (hR _ _ _ _ ψ0 ψr (by rw [ce]; exact h9) (Or.inl ⟨ψ1, ψc⟩) (by decide) (by decide))
end
/-! ##### q24 ##### -/
section
/-! ===== quadsOf on both sides ===== -/
/-- how many of the first quadrilaterals have a triple -/
def qoC (T : sT) (t n : Nat) : Nat := sm (fun q => iv (hitQ T [t] (cQ2 T q) = true)) n
theorem rev_indA {P : List Nat → Prop} (nil : P []) (append_singleton : ∀ (L : List Nat) (x : Nat), P L → P (L ++ [x])) (L : List Nat) : P L := by
  have key : ∀ (n : Nat) (L : List Nat), L.length = n → P L := by
    intro n
    induction n with
    | zero => intro L e; rw [List.eq_nil_of_length_eq_zero e]; exact nil
    | succ n ih =>
      intro L e
      have hne : ¬ L = [] := fun w => by rw [w] at e; cases e
      have q := List.dropLast_concat_getLast hne
      exact Eq.subst (motive := P) q (append_singleton _ _ (ih _ (by rw [List.length_dropLast, e]; rfl)))
  exact key _ L rfl
theorem cP_sm {h : Nat → Bool} : ∀ L : List Nat, L.countP h = sm (fun q => iv (h (L.getD q 0) = true)) L.length := by
  intro L
  induction L using rev_indA with
  | nil => rfl
  | append_singleton L x ih =>
    rw [List.countP_append, List.length_append, List.length_singleton, ih]
    show _ = sm (fun q => iv (h ((L ++ [x]).getD q 0) = true)) L.length + iv (h ((L ++ [x]).getD L.length 0) = true)
    rw [sm_ext (g := fun q => iv (h (L.getD q 0) = true)) L.length (fun i hi => by rw [gd_app hi]), gd_end]
    congr 1
    by_cases g : h x = true
    · rw [iv_t g]; simp [g]
    · rw [iv_f g]; simp [g]
theorem qoC_P {T : sT} {t : Nat} : (fL (qdB T) 42875).countP (hitQ T [t]) = qoC T t (nQ T) := cP_sm _
theorem qL_ris {V n : Nat} {T : sT} (hT : sOk V T) (hn : n < 42875) (h : qdB T n = true) : ris (qL T n) := by
  obtain ⟨⟨⟨b1, b2, b3, b4⟩, -⟩, ⟨l1, l2, l3⟩, -⟩ := qd_X hT hn h
  have l35 := trL_35 hT 225
  exact ⟨⟨by omega, fun y hy => by simp at hy; omega⟩, ⟨by omega, fun y hy => by simp at hy; omega⟩, ⟨by omega, fun y hy => by simp at hy; omega⟩, ⟨by omega, fun y hy => by simp at hy⟩, trivial⟩
/-- the k-th of the four numbers of a quadrilateral -/
theorem qo_4 {T : sT} {n t : Nat} (hr : ris (qL T n)) : iv (hitQ T [t] n = true) = iv ((qL T n).getD 0 0 = t) + iv ((qL T n).getD 1 0 = t) + iv ((qL T n).getD 2 0 = t) + iv ((qL T n).getD 3 0 = t) := by
  have h1 : n / 1225 < n / 35 % 35 := hr.1.2 _ (by simp)
  have h2 : n / 35 % 35 < n % 35 := hr.2.1.2 _ (by simp)
  have h3 : n % 35 < ql T n := hr.2.2.1.2 _ (by simp)
  have e : hitQ T [t] n = true ↔ (n / 1225 = t ∨ n / 35 % 35 = t ∨ n % 35 = t ∨ ql T n = t) := by
    unfold hitQ qL
    simp [List.any_cons]
  rw [iv_eq e]
  show _ = iv (n / 1225 = t) + iv (n / 35 % 35 = t) + iv (n % 35 = t) + iv (ql T n = t)
  rw [iv_or (fun z => by omega), iv_or (fun z => by omega), iv_or (fun z => by omega)]
  omega
theorem qoC_le {T : sT} {p : Nat} : ∀ n, qoC T p n ≤ n
  | 0 => Nat.le_refl _
  | n + 1 => by
    have h1 := qoC_le (T := T) (p := p) n
    have h2 : iv (hitQ T [p] (cQ2 T n) = true) ≤ 1 := iv_le
    show qoC T p n + iv (hitQ T [p] (cQ2 T n) = true) ≤ n + 1
    omega
theorem u135 : bUp 0 am_m135.1 = true := by decide +kernel
theorem k_135E {d V n : Nat} {h : Nat → sR} {sv : Option sR} {T : sT} {ty : Nat → Int} {hp : amH} {R : xQ} {a : Int32} (hH : bHk 84 bTT hp) (hS : clS hp (V, T, ty) n h sv)
    (hT : ∀ E hp1, bHk 84 bTT hp1 → cF hp hp1 → clS hp1 (V, T, ty) n h sv → ¬ gTri (trL T 225).length a.toInt = 0 → ((gTri (trL T 225).length a.toInt = 1 ∧ E = 1)) → R (.inr E) hp1)
    (hR : ∀ (z : Int32) hp1, bHk 84 bTT hp1 → cF hp hp1 → gTri (trL T 225).length a.toInt = 0 → clS hp1 (V, T, ty) n h sv → z.toInt = ((qoC T a.toInt.toNat (nQ T) : Nat) : Int) → R (.inl (some (.int z))) hp1) : xK (d + 4) 135 [.ref 0, .int a] hp R := by
  have hB : bdOk hp 3 V T := hS.1
  have b0 : rN hp 3 0 = (V : Int) := hB.1
  have hL : lsN hp 3 T 225 := hS.2.1
  have b1 : rN hp 3 1 = (((trL T 225).length : Nat) : Int) := hL.1
  have hT0 : sOk V T := hB.2.1
  have h15 : V ≤ 15 := hT0.2.1
  have l35 : (trL T 225).length ≤ 35 := trL_35 hT0 225
  have nq0 : rN hp 49 0 = ((nQ T : Nat) : Int) := hS.2.2.1.1
  refine xin (M := am_m135) rfl rfl rfl ?_
  refine xald 1 ⟨u135, _, rfl⟩ rfl rfl ?_
  refine xild 2 ⟨u135, _, rfl⟩ rfl rfl ?_
  refine xcallT 5 (o := 0) [.int _] [] hH ⟨u135, _, rfl⟩ rfl rfl (by decide) rfl (by decide) rfl ⟨rfl, rfl, rfl, rfl⟩ rfl (k_rqt hH b1 (fun g2 => Or.inl ⟨_, rfl, ?_⟩) (fun g2 => Or.inr ⟨_, rfl, rfl, hT _ hp hH cF.refl hS (by omega) ⟨g2, rfl⟩⟩))
  have k2 := gTri_0.mp g2
  refine xald 6 ⟨u135, _, rfl⟩ rfl rfl ?_
  refine xgetD 9 (49) hH ⟨u135, _, rfl⟩ rfl (by decide) (by decide) rfl rfl (by decide) ?_
  refine xlcst 10 (1) ⟨u135, _, rfl⟩ rfl (by decide) (fun z9 h9 => ?_)
  refine xild 11 ⟨u135, _, rfl⟩ rfl rfl ?_
  refine xlshl 12 ⟨u135, _, rfl⟩ rfl ?_
  have e11 := j_shl h9 (k := a.toInt.toNat) (c := a) (by omega) (by omega)
  refine xcallC 15 (o := 49) [.long _] [] hH ⟨u135, _, rfl⟩ rfl rfl (by decide) rfl (by decide) rfl ⟨rfl, rfl, rfl, rfl⟩ rfl (k_hdA (x := 2 ^ a.toInt.toNat) (D := [a.toInt.toNat]) hH hT0 hS.2.2.1 e11 (fun u => by rw [p2_test, decide_eq_true_iff]; simp) (fun z12 h12 => ⟨_, rfl, ?_⟩))
  rw [qoC_P] at h12
  exact xret ⟨u135, _, rfl⟩ rfl (hR _ _ hH cF.refl g2 hS h12)
/-- of the numbers in the reference's row those that are t -/
def qrC (T : sT) (t n : Nat) : Nat := sm (fun k => iv ((qL T (cQ2 T (k / 4))).getD (k % 4) 0 = t)) n
theorem qr_4 {V : Nat} {T : sT} (hT : sOk V T) {t : Nat} : ∀ n, n ≤ nQ T → qrC T t (4 * n) = qoC T t n
  | 0, _ => rfl
  | n + 1, h => by
    have h1 := qr_4 hT (t := t) n (by omega)
    obtain ⟨g1, g2, -⟩ := fL_get (B := qdB T) 42875 n (show n < nQ T by omega)
    have hr := qL_ris hT g2 g1
    have e := qo_4 (T := T) (n := cQ2 T n) (t := t) hr
    show qrC T t (4 * n + 4) = qoC T t n + iv (hitQ T [t] (cQ2 T n) = true)
    have e2 : qrC T t (4 * n + 4) = qrC T t (4 * n) + iv ((qL T (cQ2 T (4 * n / 4))).getD (4 * n % 4) 0 = t) + iv ((qL T (cQ2 T ((4 * n + 1) / 4))).getD ((4 * n + 1) % 4) 0 = t) + iv ((qL T (cQ2 T ((4 * n + 2) / 4))).getD ((4 * n + 2) % 4) 0 = t) + iv ((qL T (cQ2 T ((4 * n + 3) / 4))).getD ((4 * n + 3) % 4) 0 = t) := rfl
    rw [e2, show 4 * n / 4 = n by omega, show (4 * n + 1) / 4 = n by omega, show (4 * n + 2) / 4 = n by omega, show (4 * n + 3) / 4 = n by omega, show 4 * n % 4 = 0 by omega, show (4 * n + 1) % 4 = 1 by omega, show (4 * n + 2) % 4 = 2 by omega, show (4 * n + 3) % 4 = 3 by omega]
    omega
theorem qrC_le {T : sT} {p : Nat} : ∀ n, qrC T p n ≤ n
  | 0 => Nat.le_refl _
  | n + 1 => by
    have h1 := qrC_le (T := T) (p := p) n
    have h2 : iv ((qL T (cQ2 T (n / 4))).getD (n % 4) 0 = p) ≤ 1 := iv_le
    show qrC T p n + iv ((qL T (cQ2 T (n / 4))).getD (n % 4) 0 = p) ≤ n + 1
    omega
theorem u291 : bUp 0 am_m291.1 = true := by decide +kernel
theorem l291E {d p V : Nat} {T : sT} {hp : amH} {R : xQ} {a : Int32} (hT : sOk V T) (hH : bHk 84 bTT hp) (hQ : rqN hp T 42875) (ha : a.toInt = (p : Int))
    (hR : ∀ z : Int32, z.toInt = ((qoC T p (nQ T) : Nat) : Int) → R (.inl (some (.int z))) hp) :
    ∀ (jj t : Nat) (w wt : Int32), wt.toInt = (t : Int) → t + jj = 4 * nQ T → w.toInt = ((qrC T p t : Nat) : Int) → xV d am_m291 18 [some (.ref 66), some (.int a), some (.int w), some (.int wt)] [] hp R := by
  have l105 : nQ T ≤ 105 := q105 hT
  have L1 : rN hp 66 14 = ((nQ T : Nat) : Int) := hQ.1
  intro jj
  induction jj with
  | zero =>
    intro t w wt hwt hj hw
    have e4 := qr_4 hT (t := p) (nQ T) (Nat.le_refl _)
    have et : t = 4 * nQ T := by omega
    rw [et, e4] at hw
    refine xild 19 ⟨u291, _, rfl⟩ rfl rfl ?_
    refine xcst 20 (4) ⟨u291, _, rfl⟩ rfl (by decide) (fun z19 h19 => ?_)
    refine xald 21 ⟨u291, _, rfl⟩ rfl rfl ?_
    refine xgetI 24 hH ⟨u291, _, rfl⟩ rfl rfl (fun z21 h21 => ?_)
    refine xmul 25 (4 * Int32.toInt z21) ⟨u291, _, rfl⟩ rfl (by rw [h19]) (by omega) (by omega) (fun z24 h24 => ?_)
    refine xcmp_ge 28 ⟨u291, _, rfl⟩ rfl (fun c25 => ?_) (fun c25 => ?_)
    · refine xild 53 ⟨u291, _, rfl⟩ rfl rfl ?_
      exact xret ⟨u291, _, rfl⟩ rfl (hR _ hw)
    · omega
  | succ jj ih =>
    intro t w wt hwt hj hw
    have k2 := qrC_le (T := T) (p := p) t
    have k3 : qrC T p (t + 1) = qrC T p t + iv ((qL T (cQ2 T (t / 4))).getD (t % 4) 0 = p) := rfl
    have q4 := (rq_get hT hQ (q := t / 4) (show t / 4 < nQ T by omega)).1 (t % 4) (by omega)
    rw [show 4 * (t / 4) + t % 4 = t by omega] at q4
    refine xild 19 ⟨u291, _, rfl⟩ rfl rfl ?_
    refine xcst 20 (4) ⟨u291, _, rfl⟩ rfl (by decide) (fun z19 h19 => ?_)
    refine xald 21 ⟨u291, _, rfl⟩ rfl rfl ?_
    refine xgetI 24 hH ⟨u291, _, rfl⟩ rfl rfl (fun z21 h21 => ?_)
    refine xmul 25 (4 * Int32.toInt z21) ⟨u291, _, rfl⟩ rfl (by rw [h19]) (by omega) (by omega) (fun z24 h24 => ?_)
    refine xcmp_ge 28 ⟨u291, _, rfl⟩ rfl (fun c25 => ?_) (fun c25 => ?_)
    · omega
    · refine xild 29 ⟨u291, _, rfl⟩ rfl rfl ?_
      refine xald 30 ⟨u291, _, rfl⟩ rfl rfl ?_
      refine xgetR 33 76 hH ⟨u291, _, rfl⟩ rfl rfl ?_
      refine xild 34 ⟨u291, _, rfl⟩ rfl rfl ?_
      refine xiald 35 (wt).toInt.toNat hH ⟨u291, _, rfl⟩ rfl (by decide) rfl (by omega) (by omega) (fun z34 h34 => ?_)
      refine xild 36 ⟨u291, _, rfl⟩ rfl rfl ?_
      refine xcmp_ne 39 ⟨u291, _, rfl⟩ rfl (fun c36 => ?_) (fun c36 => ?_)
      · refine xcst 44 (0) ⟨u291, _, rfl⟩ rfl (by decide) (fun z43 h43 => ?_)
        refine xadd 45 _ ⟨u291, _, rfl⟩ rfl rfl (by omega) (by omega) (fun z44 h44 => ?_)
        refine xist 46 ⟨u291, _, rfl⟩ rfl rfl ?_
        refine xinc 49 (1) ⟨u291, _, rfl⟩ rfl rfl rfl (by decide) (by omega) (by omega) (fun z46 h46 => ?_)
        refine xgoto ⟨u291, _, rfl⟩ ?_
        rw [iv_f (p := (qL T (cQ2 T (t / 4))).getD (t % 4) 0 = p) (by rw [show wt.toInt.toNat = t by omega] at h34; omega)] at k3
        exact ih (t + 1) _ _ (by omega) (by omega) (by omega)
      · refine xcst 40 (1) ⟨u291, _, rfl⟩ rfl (by decide) (fun z39 h39 => ?_)
        refine xgoto ⟨u291, _, rfl⟩ ?_
        refine xadd 45 _ ⟨u291, _, rfl⟩ rfl rfl (by omega) (by omega) (fun z44 h44 => ?_)
        refine xist 46 ⟨u291, _, rfl⟩ rfl rfl ?_
        refine xinc 49 (1) ⟨u291, _, rfl⟩ rfl rfl rfl (by decide) (by omega) (by omega) (fun z46 h46 => ?_)
        refine xgoto ⟨u291, _, rfl⟩ ?_
        rw [iv_t (p := (qL T (cQ2 T (t / 4))).getD (t % 4) 0 = p) (by rw [show wt.toInt.toNat = t by omega] at h34; omega)] at k3
        exact ih (t + 1) _ _ (by omega) (by omega) (by omega)
theorem k_291E {d V n : Nat} {h : Nat → sR} {sv : Option sR} {T : sT} {ty : Nat → Int} {hp : amH} {R : xQ} {a : Int32} (hH : bHk 84 bTT hp) (hP : P0 hp) (hS : rfS hp (V, T, ty) n h sv)
    (hR : ∀ (z : Int32) hp1, bHk 84 bTT hp1 → P0 hp1 → bFr wM hp hp1 → rN hp1 66 7 = gTri (trL T 225).length a.toInt → ((¬ gTri (trL T 225).length a.toInt = 0 ∧ rfS hp1 (V, T, ty) n h sv) ∨ (gTri (trL T 225).length a.toInt = 0 ∧ rfS hp1 (V, T, ty) n h sv ∧ z.toInt = ((qoC T a.toInt.toNat (nQ T) : Nat) : Int))) → R (.inl (some (.int z))) hp1) : xK (d + 6) 291 [.ref 66, .int a] hp R := by
  have hB : rdOk hp V T := rowOk_rd hS.1
  have b0 : rN hp 67 0 = (V : Int) := hB.1
  have hT0 : sOk V T := hB.2.1
  have h15 : V ≤ 15 := hT0.2.1
  have l35 : (trL T 225).length ≤ 35 := trL_35 hT0 225
  refine xin (M := am_m291) rfl rfl rfl ?_
  refine xald 1 ⟨u291, _, rfl⟩ rfl rfl ?_
  refine xild 2 ⟨u291, _, rfl⟩ rfl rfl ?_
  refine xcall 5 [.ref 66, .int _] [] hH ⟨u291, _, rfl⟩ rfl rfl rfl rfl rfl (k_gpt hH hB (fun z2 hp2 hH2 F2 B2 L2 t2 o2 => ⟨_, rfl, ?_⟩))
  have S2 := rfS_W hS F2 (fun _ => rfl) rfl rfl (fun _ => rfl) (fun _ => rfl)
  have P2 : P0 hp2 := P0_W (W := (66, 7) :: bLT) (by decide) F2 hP
  refine xif_eq 8 ⟨u291, _, rfl⟩ rfl (fun c5 => ?_) (fun c5 => ?_)
  · have g2 : gTri (trL T 225).length a.toInt = 0 := by omega
    have k2 := gTri_0.mp g2
    refine xald 11 ⟨u291, _, rfl⟩ rfl rfl ?_
    refine xcall 14 [.ref 66] [] hH2 ⟨u291, _, rfl⟩ rfl rfl rfl rfl rfl (k_lqs hH2 B2 (q105 hT0) (fun hp11 hH11 F11 B11 L11 Q11 => ⟨_, rfl, ?_⟩))
    have S11 := rfS_W S2 F11 (fun _ => rfl) rfl rfl (fun _ => rfl) (fun _ => rfl)
    have P11 : P0 hp11 := P0_W (W := wLQE) (by decide) F11 P2
    refine xcst 15 (0) ⟨u291, _, rfl⟩ rfl (by decide) (fun z14 h14 => ?_)
    refine xist 16 ⟨u291, _, rfl⟩ rfl rfl ?_
    refine xcst 17 (0) ⟨u291, _, rfl⟩ rfl (by decide) (fun z16 h16 => ?_)
    refine xist 18 ⟨u291, _, rfl⟩ rfl rfl ?_
    exact l291E hT0 hH11 Q11 (p := a.toInt.toNat) (by omega) (fun z h => hR z hp11 hH11 P11 ((bFr_sub F2 (by decide)).trans (bFr_sub F11 (by decide))) (by rw [show rN hp11 66 7 = rN hp2 66 7 from r_fr F11 rfl]; exact t2) (Or.inr ⟨g2, S11, h⟩)) (4 * nQ T) 0 _ _ h16 (by omega) h14
  · refine xcst 9 (0) ⟨u291, _, rfl⟩ rfl (by decide) (fun z8 h8 => ?_)
    exact xret ⟨u291, _, rfl⟩ rfl (hR _ hp2 hH2 P2 (bFr_sub F2 (by decide)) t2 (Or.inl ⟨by omega, S2⟩))
theorem h361E {d : Nat} {hp : amH} {R : cQ} {x1 : Int32} {V n : Nat} {h : Nat → sR} {sv : Option sR} {T : sT} {ty : Nat → Int} (hI : lawI hp) (c : clS hp (V, T, ty) n h sv) (r : rfS hp (V, T, ty) n h sv)
    (hR : ∀ (z : Int32) hp1 mc ms, lawI hp1 → rfS hp1 (V, T, ty) n h sv → z.toInt = gTri (trL T 225).length x1.toInt → ((¬ gTri (trL T 225).length x1.toInt = 0 ∧ clS hp1 (V, T, ty) n h sv) ∨ (gTri (trL T 225).length x1.toInt = 0 ∧ clS hp1 (V, T, ty) n h sv ∧ rJ hp1 83 0 = ((qoC T x1.toInt.toNat (nQ T) : Nat) : Int))) → mc ≤ 1 → ms ≤ 6 → R (.inl (some (.int z))) hp1 mc ms) : cK (d + 20) 361 [.ref 0, .int x1, .ref 83] hp R := by
  refine cin (M := am_m361) rfl rfl rfl ?_
  refine cald 1 ⟨u361J, _, rfl⟩ rfl rfl ?_
  refine ccst 2 (0) ⟨u361J, _, rfl⟩ rfl (by decide) (fun z1 h1 => ?_)
  refine cald 3 ⟨u361J, _, rfl⟩ rfl rfl ?_
  refine cild 4 ⟨u361J, _, rfl⟩ rfl rfl ?_
  refine ccall (kd := 0) (t := 1) [.ref 0, .int _] [.int _, .ref 83] hI.1 ⟨u361J, _, rfl⟩ (Or.inl ⟨_, rfl, rfl, by decide, by decide⟩) rfl rfl rfl ⟨rfl, rfl, rfl⟩ rfl (recv0 hI.1 _) rfl (qKE (Φ := fun z hp1 => bHk 84 bTT hp1 ∧ cF hp hp1 ∧ gTri (trL T 225).length x1.toInt = 0 ∧ clS hp1 (V, T, ty) n h sv ∧ z.toInt = ((qoC T x1.toInt.toNat (nQ T) : Nat) : Int)) (Ψ := fun E hp1 => lawI hp1 ∧ rfS hp1 (V, T, ty) n h sv ∧ clS hp1 (V, T, ty) n h sv ∧ ¬ gTri (trL T 225).length x1.toInt = 0 ∧ ((gTri (trL T 225).length x1.toInt = 1 ∧ E = 1))) (fun R g1 g2 => k_135E (d := d + 15) hI.1 c (fun E hp1 b1 b2 b3 e1 e2 => g2 E hp1 ⟨law_cl hI b1 b2, cF_rf b2 r, b3, e1, e2⟩) (fun z hp1 a1 a2 a3 a4 a5 => g1 z hp1 ⟨a1, a2, a3, a4, a5⟩)) (fun z hp1 φ => Or.inl ⟨_, rfl, ?_⟩) (fun E hp1 ψ => Or.inr ?_))
  · refine ci2lE 8 ⟨u361J, _, rfl⟩ rfl (fun w hw => ?_)
    refine clastE 9 φ.1 ⟨u361J, _, rfl⟩ rfl h1 (fun hp2 hH2 F2 J2 => ?_)
    refine cgoto ⟨u361J, _, rfl⟩ ?_
    refine ccst 16 (0) ⟨u361J, _, rfl⟩ rfl (by decide) (fun z9 h9 => ?_)
    exact cret ⟨u361J, _, rfl⟩ (Or.inl rfl) (hR _ _ _ _ (lawI_83 (law_cl hI φ.1 φ.2.1) hH2 F2) (rf_83 F2 (cF_rf φ.2.1 r)) (by rw [φ.2.2.1]; exact h9) (Or.inr ⟨φ.2.2.1, cl_83 F2 φ.2.2.2.1, by rw [J2, hw]; exact φ.2.2.2.2⟩) (by decide) (by decide))
  · obtain ⟨ψ0, ψr, ψc, ψ1, ψ2⟩ := ψ
    obtain ⟨ce, rfl⟩ := ψ2
    refine ⟨1, 12, 3, 13, rfl, rfl, rfl, rfl, ?_⟩
    refine ccst 14 (1) ⟨u361J, _, rfl⟩ rfl (by decide) (fun z9 h9 => ?_)
    exact cret ⟨u361J, _, rfl⟩ (Or.inl rfl) (hR _ _ _ _ ψ0 ψr (by rw [ce]; exact h9) (Or.inl ⟨ψ1, ψc⟩) (by decide) (by decide))
end
/-! ##### q26 ##### -/
section
/-! ===== wouldHave's helper ===== -/
theorem h363E {d : Nat} {hp : amH} {R : cQ} {x1 : Int32} {V n : Nat} {h : Nat → sR} {sv : Option sR} {T : sT} {ty : Nat → Int} (hI : lawI hp) (c : clS hp (V, T, ty) n h sv) (r : rfS hp (V, T, ty) n h sv)
    (hR : ∀ (z : Int32) hp1 mc ms, lawI hp1 → rfS hp1 (V, T, ty) n h sv → z.toInt = gTri (nQ T) x1.toInt → ((¬ gTri (nQ T) x1.toInt = 0 ∧ clS hp1 (V, T, ty) n h sv) ∨ (gTri (nQ T) x1.toInt = 0 ∧ clS hp1 (V, T, ty) n h sv ∧ rJ hp1 83 0 = ((swV T x1.toInt.toNat : Nat) : Int))) → mc ≤ 1 → ms ≤ 6 → R (.inl (some (.int z))) hp1 mc ms) : cK (d + 20) 363 [.ref 0, .int x1, .ref 83] hp R := by
  refine cin (M := am_m363) rfl rfl rfl ?_
  refine cald 1 ⟨u363J, _, rfl⟩ rfl rfl ?_
  refine ccst 2 (0) ⟨u363J, _, rfl⟩ rfl (by decide) (fun z1 h1 => ?_)
  refine cald 3 ⟨u363J, _, rfl⟩ rfl rfl ?_
  refine cild 4 ⟨u363J, _, rfl⟩ rfl rfl ?_
  refine ccall (kd := 0) (t := 1) [.ref 0, .int _] [.int _, .ref 83] hI.1 ⟨u363J, _, rfl⟩ (Or.inl ⟨_, rfl, rfl, by decide, by decide⟩) rfl rfl rfl ⟨rfl, rfl, rfl⟩ rfl (recv0 hI.1 _) rfl (qKE (Φ := fun z hp1 => bHk 84 bTT hp1 ∧ cF hp hp1 ∧ gTri (nQ T) x1.toInt = 0 ∧ clS hp1 (V, T, ty) n h sv ∧ z.toInt = ((swV T x1.toInt.toNat : Nat) : Int)) (Ψ := fun E hp1 => lawI hp1 ∧ rfS hp1 (V, T, ty) n h sv ∧ clS hp1 (V, T, ty) n h sv ∧ ¬ gTri (nQ T) x1.toInt = 0 ∧ ((gTri (nQ T) x1.toInt = 1 ∧ E = 1))) (fun R g1 g2 => k_137E (d := d + 13) hI.1 c (fun E e1 e2 => g2 E hp ⟨hI, r, c, e1, (by
      rcases e2 with z | z | z
      · exact z
      · exfalso; have := gTri_12 (n := nQ T) (t := x1.toInt); omega
      · exfalso; have := gTri_12 (n := nQ T) (t := x1.toInt); omega)⟩) (fun z hp1 a1 a2 a3 a4 a5 => g1 z hp1 ⟨a1, a2, a3, a4, a5⟩)) (fun z hp1 φ => Or.inl ⟨_, rfl, ?_⟩) (fun E hp1 ψ => Or.inr ?_))
  · refine ci2lE 8 ⟨u363J, _, rfl⟩ rfl (fun w hw => ?_)
    refine clastE 9 φ.1 ⟨u363J, _, rfl⟩ rfl h1 (fun hp2 hH2 F2 J2 => ?_)
    refine cgoto ⟨u363J, _, rfl⟩ ?_
    refine ccst 16 (0) ⟨u363J, _, rfl⟩ rfl (by decide) (fun z9 h9 => ?_)
    exact cret ⟨u363J, _, rfl⟩ (Or.inl rfl) (hR _ _ _ _ (lawI_83 (law_cl hI φ.1 φ.2.1) hH2 F2) (rf_83 F2 (cF_rf φ.2.1 r)) (by rw [φ.2.2.1]; exact h9) (Or.inr ⟨φ.2.2.1, cl_83 F2 φ.2.2.2.1, by rw [J2, hw]; exact φ.2.2.2.2⟩) (by decide) (by decide))
  · obtain ⟨ψ0, ψr, ψc, ψ1, ψ2⟩ := ψ
    obtain ⟨ce, rfl⟩ := ψ2
    refine ⟨1, 12, 3, 13, rfl, rfl, rfl, rfl, ?_⟩
    refine ccst 14 (1) ⟨u363J, _, rfl⟩ rfl (by decide) (fun z9 h9 => ?_)
    exact cret ⟨u363J, _, rfl⟩ (Or.inl rfl) (hR _ _ _ _ ψ0 ψr (by rw [ce]; exact h9) (Or.inl ⟨ψ1, ψc⟩) (by decide) (by decide))
end
/-! ##### q29 ##### -/
section
/-! ===== cycles on both sides ===== -/
theorem u140 : bUp 0 am_m140.1 = true := by decide +kernel
theorem k_140E {d V n : Nat} {h : Nat → sR} {sv : Option sR} {T : sT} {ty : Nat → Int} {hp : amH} {R : xQ} {a b : Int32} (hH : bHk 84 bTT hp) (hS : clS hp (V, T, ty) n h sv)
    (hT : ∀ E hp1, bHk 84 bTT hp1 → cF hp hp1 → clS hp1 (V, T, ty) n h sv → ¬ gTwo V a.toInt b.toInt = 0 → ((gTwo V a.toInt b.toInt = 1 ∧ E = 1) ∨ (gTwo V a.toInt b.toInt = 2 ∧ E = 0)) → R (.inr E) hp1)
    (hR : ∀ (z : Int32) hp1, bHk 84 bTT hp1 → cF hp hp1 → gTwo V a.toInt b.toInt = 0 → clS hp1 (V, T, ty) n h sv → z.toInt = (((cyS T a.toInt.toNat b.toInt.toNat V).length : Nat) : Int) → R (.inl (some (.int z))) hp1) : xK (d + 5) 140 [.ref 0, .int a, .int b] hp R := by
  have hB : bdOk hp 3 V T := hS.1
  have b0 : rN hp 3 0 = (V : Int) := hB.1
  have hL : lsN hp 3 T 225 := hS.2.1
  have b1 : rN hp 3 1 = (((trL T 225).length : Nat) : Int) := hL.1
  have hT0 : sOk V T := hB.2.1
  have h15 : V ≤ 15 := hT0.2.1
  have l35 : (trL T 225).length ≤ 35 := trL_35 hT0 225
  have nq0 : rN hp 49 0 = ((nQ T : Nat) : Int) := hS.2.2.1.1
  refine xin (M := am_m140) rfl rfl rfl ?_
  refine xald 1 ⟨u140, _, rfl⟩ rfl rfl ?_
  refine xild 2 ⟨u140, _, rfl⟩ rfl rfl ?_
  refine xild 3 ⟨u140, _, rfl⟩ rfl rfl ?_
  refine xcallT 6 (o := 0) [.int _, .int _] [] hH ⟨u140, _, rfl⟩ rfl rfl (by decide) rfl (by decide) rfl ⟨rfl, rfl, rfl, rfl⟩ rfl (k_rq2 hH b0 (fun g3 => Or.inl ⟨_, rfl, ?_⟩) (fun g3 => Or.inr ⟨_, rfl, rfl, hT _ hp hH cF.refl hS (by omega) (Or.inl ⟨g3, rfl⟩)⟩) (fun g3 => Or.inr ⟨_, rfl, rfl, hT _ hp hH cF.refl hS (by omega) (Or.inr ⟨g3, rfl⟩)⟩))
  have k3 := gTwo_0.mp g3
  refine xald 7 ⟨u140, _, rfl⟩ rfl rfl ?_
  refine xgetD 10 (52) hH ⟨u140, _, rfl⟩ rfl (by decide) (by decide) rfl rfl (by decide) ?_
  refine xald 11 ⟨u140, _, rfl⟩ rfl rfl ?_
  refine xgetD 14 (3) hH ⟨u140, _, rfl⟩ rfl (by decide) (by decide) rfl rfl (by decide) ?_
  refine xild 15 ⟨u140, _, rfl⟩ rfl rfl ?_
  refine xild 16 ⟨u140, _, rfl⟩ rfl rfl ?_
  refine xcallC 19 (o := 52) [.ref 3, .int _, .int _] [] hH ⟨u140, _, rfl⟩ rfl rfl (by decide) rfl (by decide) rfl ⟨rfl, rfl, rfl, rfl⟩ rfl (k_gaC hH hB hL (a := a.toInt.toNat) (b := b.toInt.toNat) (by omega) (by omega) (by omega) (by omega) (by omega) (fun hp16 hH16 F16 C16 => ⟨_, rfl, ?_⟩))
  refine xald 20 ⟨u140, _, rfl⟩ rfl rfl ?_
  refine xgetD 23 (52) hH16 ⟨u140, _, rfl⟩ rfl (by decide) (by decide) rfl rfl (by decide) ?_
  refine xgetC 26 hH16 ⟨u140, _, rfl⟩ rfl (by decide) (by decide) rfl rfl (by decide) (fun z23 h23 => ?_)
  exact xret ⟨u140, _, rfl⟩ rfl (hR _ hp16 hH16 (cF_x F16 (by simp)) g3 (clS_8 hS (fun c k hc => F16 c k (by simp; omega))) (by rw [h23]; exact C16.1))
theorem u297 : bUp 0 am_m297.1 = true := by decide +kernel
theorem k_297E {d V n : Nat} {h : Nat → sR} {sv : Option sR} {T : sT} {ty : Nat → Int} {hp : amH} {R : xQ} {a b : Int32} (hH : bHk 84 bTT hp) (hP : P0 hp) (hS : rfS hp (V, T, ty) n h sv)
    (hR : ∀ (z : Int32) hp1, bHk 84 bTT hp1 → P0 hp1 → bFr wM hp hp1 → rN hp1 66 7 = gTwo V a.toInt b.toInt → ((¬ gTwo V a.toInt b.toInt = 0 ∧ rfS hp1 (V, T, ty) n h sv) ∨ (gTwo V a.toInt b.toInt = 0 ∧ rfS hp1 (V, T, ty) n h sv ∧ z.toInt = (((cyS T a.toInt.toNat b.toInt.toNat V).length : Nat) : Int))) → R (.inl (some (.int z))) hp1) : xK (d + 5) 297 [.ref 66, .int a, .int b] hp R := by
  have hB : rdOk hp V T := rowOk_rd hS.1
  have b0 : rN hp 67 0 = (V : Int) := hB.1
  have hT0 : sOk V T := hB.2.1
  have h15 : V ≤ 15 := hT0.2.1
  have l35 : (trL T 225).length ≤ 35 := trL_35 hT0 225
  refine xin (M := am_m297) rfl rfl rfl ?_
  refine xald 1 ⟨u297, _, rfl⟩ rfl rfl ?_
  refine xild 2 ⟨u297, _, rfl⟩ rfl rfl ?_
  refine xild 3 ⟨u297, _, rfl⟩ rfl rfl ?_
  refine xcall 6 [.ref 66, .int _, .int _] [] hH ⟨u297, _, rfl⟩ rfl rfl rfl rfl rfl (k_gp2 hH b0 h15 (fun z3 hp3 hH3 F3 t3 o3 => ⟨_, rfl, ?_⟩))
  have S3 := rfS_W hS F3 (fun _ => rfl) rfl rfl (fun _ => rfl) (fun _ => rfl)
  have P3 : P0 hp3 := P0_W (W := [(66, 7)]) (by decide) F3 hP
  refine xif_eq 9 ⟨u297, _, rfl⟩ rfl (fun c6 => ?_) (fun c6 => ?_)
  · have g3 : gTwo V a.toInt b.toInt = 0 := by omega
    have k3 := gTwo_0.mp g3
    refine xald 14 ⟨u297, _, rfl⟩ rfl rfl ?_
    refine xild 15 ⟨u297, _, rfl⟩ rfl rfl ?_
    refine xild 16 ⟨u297, _, rfl⟩ rfl rfl ?_
    refine xcall 19 [.ref 66, .int _, .int _] [] hH3 ⟨u297, _, rfl⟩ rfl rfl rfl rfl rfl (k_227E hH3 (show rdOk hp3 V T from rowOk_rd S3.1) (a := a.toInt.toNat) (b := b.toInt.toNat) (by omega) (by omega) (by omega) (by omega) (fun z16 hp16 hH16 F16 h16 => ⟨_, rfl, ?_⟩))
    exact xret ⟨u297, _, rfl⟩ rfl (hR _ hp16 hH16 (P0_W (W := wWkE) (by decide) F16 P3) ((bFr_sub F3 (by decide)).trans (bFr_sub F16 (by decide))) (by rw [show rN hp16 66 7 = rN hp3 66 7 from r_fr F16 rfl]; exact t3) (Or.inr ⟨g3, rfS_W S3 F16 (fun _ => rfl) rfl rfl (fun _ => rfl) (fun _ => rfl), h16⟩))
  · refine xcst 10 (0) ⟨u297, _, rfl⟩ rfl (by decide) (fun z9 h9 => ?_)
    refine xgoto ⟨u297, _, rfl⟩ ?_
    exact xret ⟨u297, _, rfl⟩ rfl (hR _ hp3 hH3 P3 (bFr_sub F3 (by decide)) t3 (Or.inl ⟨by omega, S3⟩))
theorem h365E {d : Nat} {hp : amH} {R : cQ} {x1 x2 : Int32} {V n : Nat} {h : Nat → sR} {sv : Option sR} {T : sT} {ty : Nat → Int} (hI : lawI hp) (c : clS hp (V, T, ty) n h sv) (r : rfS hp (V, T, ty) n h sv)
    (hR : ∀ (z : Int32) hp1 mc ms, lawI hp1 → rfS hp1 (V, T, ty) n h sv → z.toInt = gTwo V x1.toInt x2.toInt → ((¬ gTwo V x1.toInt x2.toInt = 0 ∧ clS hp1 (V, T, ty) n h sv) ∨ (gTwo V x1.toInt x2.toInt = 0 ∧ clS hp1 (V, T, ty) n h sv ∧ rJ hp1 83 0 = (((cyS T x1.toInt.toNat x2.toInt.toNat V).length : Nat) : Int))) → mc ≤ 1 → ms ≤ 6 → R (.inl (some (.int z))) hp1 mc ms) : cK (d + 20) 365 [.ref 0, .int x1, .int x2, .ref 83] hp R := by
  refine cin (M := am_m365) rfl rfl rfl ?_
  refine cald 1 ⟨u365J, _, rfl⟩ rfl rfl ?_
  refine ccst 2 (0) ⟨u365J, _, rfl⟩ rfl (by decide) (fun z1 h1 => ?_)
  refine cald 3 ⟨u365J, _, rfl⟩ rfl rfl ?_
  refine cild 4 ⟨u365J, _, rfl⟩ rfl rfl ?_
  refine cild 5 ⟨u365J, _, rfl⟩ rfl rfl ?_
  refine ccall (kd := 0) (t := 2) [.ref 0, .int _, .int _] [.int _, .ref 83] hI.1 ⟨u365J, _, rfl⟩ (Or.inl ⟨_, rfl, rfl, by decide, by decide⟩) rfl rfl rfl ⟨rfl, rfl, rfl⟩ rfl (recv0 hI.1 _) rfl (qKE (Φ := fun z hp1 => bHk 84 bTT hp1 ∧ cF hp hp1 ∧ gTwo V x1.toInt x2.toInt = 0 ∧ clS hp1 (V, T, ty) n h sv ∧ z.toInt = (((cyS T x1.toInt.toNat x2.toInt.toNat V).length : Nat) : Int)) (Ψ := fun E hp1 => lawI hp1 ∧ rfS hp1 (V, T, ty) n h sv ∧ clS hp1 (V, T, ty) n h sv ∧ ¬ gTwo V x1.toInt x2.toInt = 0 ∧ ((gTwo V x1.toInt x2.toInt = 1 ∧ E = 1) ∨ (gTwo V x1.toInt x2.toInt = 2 ∧ E = 0))) (fun R g1 g2 => k_140E (d := d + 14) hI.1 c (fun E hp1 b1 b2 b3 e1 e2 => g2 E hp1 ⟨law_cl hI b1 b2, cF_rf b2 r, b3, e1, e2⟩) (fun z hp1 a1 a2 a3 a4 a5 => g1 z hp1 ⟨a1, a2, a3, a4, a5⟩)) (fun z hp1 φ => Or.inl ⟨_, rfl, ?_⟩) (fun E hp1 ψ => Or.inr ?_))
  · refine ci2lE 9 ⟨u365J, _, rfl⟩ rfl (fun w hw => ?_)
    refine clastE 10 φ.1 ⟨u365J, _, rfl⟩ rfl h1 (fun hp2 hH2 F2 J2 => ?_)
    refine cgoto ⟨u365J, _, rfl⟩ ?_
    refine ccst 22 (0) ⟨u365J, _, rfl⟩ rfl (by decide) (fun z9 h9 => ?_)
    exact cret ⟨u365J, _, rfl⟩ (Or.inl rfl) (hR _ _ _ _ (lawI_83 (law_cl hI φ.1 φ.2.1) hH2 F2) (rf_83 F2 (cF_rf φ.2.1 r)) (by rw [φ.2.2.1]; exact h9) (Or.inr ⟨φ.2.2.1, cl_83 F2 φ.2.2.2.1, by rw [J2, hw]; exact φ.2.2.2.2⟩) (by decide) (by decide))
  · obtain ⟨ψ0, ψr, ψc, ψ1, ψ2⟩ := ψ
    rcases ψ2 with ⟨ce, rfl⟩ | ⟨ce, rfl⟩
    · refine ⟨1, 13, 4, 15, rfl, rfl, rfl, rfl, ?_⟩
      refine ccst 16 (1) ⟨u365J, _, rfl⟩ rfl (by decide) (fun z9 h9 => ?_)
      exact cret ⟨u365J, _, rfl⟩ (Or.inl rfl) (hR _ _ _ _ ψ0 ψr (by rw [ce]; exact h9) (Or.inl ⟨ψ1, ψc⟩) (by decide) (by decide))
    · refine ⟨0, 17, 4, 19, rfl, rfl, rfl, rfl, ?_⟩
      refine ccst 20 (2) ⟨u365J, _, rfl⟩ rfl (by decide) (fun z9 h9 => ?_)
      exact cret ⟨u365J, _, rfl⟩ (Or.inl rfl) (hR _ _ _ _ ψ0 ψr (by rw [ce]; exact h9) (Or.inl ⟨ψ1, ψc⟩) (by decide) (by decide))
end
/-! ##### q30 ##### -/
section
/-! ===== cycleLength on both sides ===== -/
theorem u141 : bUp 0 am_m141.1 = true := by decide +kernel
theorem k_141E {d V n : Nat} {h : Nat → sR} {sv : Option sR} {T : sT} {ty : Nat → Int} {hp : amH} {R : xQ} {a b c : Int32} (hH : bHk 84 bTT hp) (hS : clS hp (V, T, ty) n h sv)
    (hT : ∀ E hp1, bHk 84 bTT hp1 → cF hp hp1 → clS hp1 (V, T, ty) n h sv → ¬ gCy V T a.toInt b.toInt c.toInt = 0 → ((gCy V T a.toInt b.toInt c.toInt = 1 ∧ E = 1) ∨ (gCy V T a.toInt b.toInt c.toInt = 2 ∧ E = 0) ∨ (gCy V T a.toInt b.toInt c.toInt = 3 ∧ E = 3)) → R (.inr E) hp1)
    (hR : ∀ (z : Int32) hp1, bHk 84 bTT hp1 → cF hp hp1 → gCy V T a.toInt b.toInt c.toInt = 0 → clS hp1 (V, T, ty) n h sv → z.toInt = ((cyL T a.toInt.toNat b.toInt.toNat (cyX V T a.toInt b.toInt c.toInt) : Nat) : Int) → R (.inl (some (.int z))) hp1) : xK (d + 5) 141 [.ref 0, .int a, .int b, .int c] hp R := by
  have hB : bdOk hp 3 V T := hS.1
  have b0 : rN hp 3 0 = (V : Int) := hB.1
  have hL : lsN hp 3 T 225 := hS.2.1
  have b1 : rN hp 3 1 = (((trL T 225).length : Nat) : Int) := hL.1
  have hT0 : sOk V T := hB.2.1
  have h15 : V ≤ 15 := hT0.2.1
  have l35 : (trL T 225).length ≤ 35 := trL_35 hT0 225
  have nq0 : rN hp 49 0 = ((nQ T : Nat) : Int) := hS.2.2.1.1
  refine xin (M := am_m141) rfl rfl rfl ?_
  refine xald 1 ⟨u141, _, rfl⟩ rfl rfl ?_
  refine xild 2 ⟨u141, _, rfl⟩ rfl rfl ?_
  refine xild 3 ⟨u141, _, rfl⟩ rfl rfl ?_
  refine xild 4 ⟨u141, _, rfl⟩ rfl rfl ?_
  refine xcallT 7 (o := 0) [.int _, .int _, .int _] [] hH ⟨u141, _, rfl⟩ rfl rfl (by decide) rfl (by decide) rfl ⟨rfl, rfl, rfl, rfl⟩ rfl (k_rqC hH hS (fun E g2 e => Or.inr ⟨_, rfl, rfl, hT _ hp hH cF.refl hS (fun z => g2 (gCy_0.mp z).1) (by
    have gc : gCy V T a.toInt b.toInt c.toInt = gTwo V a.toInt b.toInt := by unfold gCy; rw [if_neg g2]
    rw [gc]
    rcases e with e | e | e
    · exact Or.inl e
    · exact Or.inr (Or.inl e)
    · exfalso; have := gTwo_12 (V := V) (a := a.toInt) (b := b.toInt); omega)⟩) (fun hp4 hH4 F4 g2 g3 => Or.inr ⟨_, rfl, rfl, hT _ hp4 hH4 (cF_x F4 (by simp)) (clS_8 hS (fun c k hc => F4 c k (by simp; omega))) (fun z => g3 (gCy_0.mp z).2) (Or.inr (Or.inr ⟨by unfold gCy; rw [if_pos g2, if_neg g3], rfl⟩))⟩) (fun hp4 hH4 F4 g2 g3 g4 C4 => Or.inl ⟨_, rfl, ?_⟩))
  have k2 := gTwo_0.mp g2
  have g0 : gCy V T a.toInt b.toInt c.toInt = 0 := gCy_0.mpr ⟨g2, g3, g4⟩
  obtain ⟨c1, c2, c3, c4, c5⟩ := C4
  have lq : c.toInt.toNat < (cyS T a.toInt.toNat b.toInt.toNat V).length := by omega
  obtain ⟨y1, y2, y3⟩ := cy_15 (T := T) (n := V) hT0 (a := a.toInt.toNat) (b := b.toInt.toNat) (by omega) (by omega) (by omega) (Nat.le_refl V)
  have f1 := c4 c.toInt.toNat (by omega)
  have f2 := c4 (c.toInt.toNat + 1) (by omega)
  have f3 := offs_s (T := T) (a := a.toInt.toNat) (b := b.toInt.toNat) (L := cyS T a.toInt.toNat b.toInt.toNat V) (q := c.toInt.toNat)
  have f4 := y3 (c.toInt.toNat + 1) (by omega)
  refine xald 8 ⟨u141, _, rfl⟩ rfl rfl ?_
  refine xgetD 11 (52) hH4 ⟨u141, _, rfl⟩ rfl (by decide) (by decide) rfl rfl (by decide) ?_
  refine xild 12 ⟨u141, _, rfl⟩ rfl rfl ?_
  refine xcallC 15 (o := 52) [.int _] [] hH4 ⟨u141, _, rfl⟩ rfl rfl (by decide) rfl (by decide) rfl ⟨rfl, rfl, rfl, rfl⟩ rfl (k_lngC hH4 (n := c.toInt.toNat) (by omega) (by omega) (by omega) (by omega) (by omega) (fun z12 h12 => ⟨_, rfl, ?_⟩))
  exact xret ⟨u141, _, rfl⟩ rfl (hR _ hp4 hH4 (cF_x F4 (by simp)) g0 (clS_8 hS (fun c k hc => F4 c k (by simp; omega))) (by show _ = ((cyL T a.toInt.toNat b.toInt.toNat ((cyS T a.toInt.toNat b.toInt.toNat V).getD c.toInt.toNat 0) : Nat) : Int); omega))
theorem u298 : bUp 0 am_m298.1 = true := by decide +kernel
theorem k_298E {d V n : Nat} {h : Nat → sR} {sv : Option sR} {T : sT} {ty : Nat → Int} {hp : amH} {R : xQ} {a b c : Int32} (hH : bHk 84 bTT hp) (hP : P0 hp) (hS : rfS hp (V, T, ty) n h sv)
    (hR : ∀ (z : Int32) hp1, bHk 84 bTT hp1 → P0 hp1 → bFr wM hp hp1 → rN hp1 66 7 = gCy V T a.toInt b.toInt c.toInt → ((¬ gCy V T a.toInt b.toInt c.toInt = 0 ∧ rfS hp1 (V, T, ty) n h sv) ∨ (gCy V T a.toInt b.toInt c.toInt = 0 ∧ rfS hp1 (V, T, ty) n h sv ∧ z.toInt = ((cyL T a.toInt.toNat b.toInt.toNat (cyX V T a.toInt b.toInt c.toInt) : Nat) : Int))) → R (.inl (some (.int z))) hp1) : xK (d + 5) 298 [.ref 66, .int a, .int b, .int c] hp R := by
  have hB : rdOk hp V T := rowOk_rd hS.1
  have b0 : rN hp 67 0 = (V : Int) := hB.1
  have hT0 : sOk V T := hB.2.1
  have h15 : V ≤ 15 := hT0.2.1
  have l35 : (trL T 225).length ≤ 35 := trL_35 hT0 225
  refine xin (M := am_m298) rfl rfl rfl ?_
  refine xald 1 ⟨u298, _, rfl⟩ rfl rfl ?_
  refine xild 2 ⟨u298, _, rfl⟩ rfl rfl ?_
  refine xild 3 ⟨u298, _, rfl⟩ rfl rfl ?_
  refine xild 4 ⟨u298, _, rfl⟩ rfl rfl ?_
  refine xcall 7 [.ref 66, .int _, .int _, .int _] [] hH ⟨u298, _, rfl⟩ rfl rfl rfl rfl rfl (k_259E hH hP (rowOk_rd hS.1) (fun z4 hp4 hH4 P4 F4 t4 o4 => ⟨_, rfl, ?_⟩))
  have S4 := rfS_W hS F4 (fun _ => rfl) rfl rfl (fun _ => rfl) (fun _ => rfl)
  refine xif_eq 10 ⟨u298, _, rfl⟩ rfl (fun c7 => ?_) (fun c7 => ?_)
  · refine xald 15 ⟨u298, _, rfl⟩ rfl rfl ?_
    refine xgetI 18 hH4 ⟨u298, _, rfl⟩ rfl rfl (fun z15 h15 => ?_)
    rcases o4 with ⟨g0, -, r1, -⟩ | ⟨-, q1⟩
    · exact xret ⟨u298, _, rfl⟩ rfl (hR _ hp4 hH4 P4 (bFr_sub F4 (by decide)) t4 (Or.inr ⟨g0, S4, h15.trans r1⟩))
    · omega
  · refine xcst 11 (0) ⟨u298, _, rfl⟩ rfl (by decide) (fun z10 h10 => ?_)
    refine xgoto ⟨u298, _, rfl⟩ ?_
    rcases o4 with ⟨-, q1, -⟩ | ⟨g1, -⟩
    · omega
    · exact xret ⟨u298, _, rfl⟩ rfl (hR _ hp4 hH4 P4 (bFr_sub F4 (by decide)) t4 (Or.inl ⟨g1, S4⟩))
theorem h366E {d : Nat} {hp : amH} {R : cQ} {x1 x2 x3 : Int32} {V n : Nat} {h : Nat → sR} {sv : Option sR} {T : sT} {ty : Nat → Int} (hI : lawI hp) (c : clS hp (V, T, ty) n h sv) (r : rfS hp (V, T, ty) n h sv)
    (hR : ∀ (z : Int32) hp1 mc ms, lawI hp1 → rfS hp1 (V, T, ty) n h sv → z.toInt = gCy V T x1.toInt x2.toInt x3.toInt → ((¬ gCy V T x1.toInt x2.toInt x3.toInt = 0 ∧ clS hp1 (V, T, ty) n h sv) ∨ (gCy V T x1.toInt x2.toInt x3.toInt = 0 ∧ clS hp1 (V, T, ty) n h sv ∧ rJ hp1 83 0 = ((cyL T x1.toInt.toNat x2.toInt.toNat (cyX V T x1.toInt x2.toInt x3.toInt) : Nat) : Int))) → mc ≤ 1 → ms ≤ 6 → R (.inl (some (.int z))) hp1 mc ms) : cK (d + 20) 366 [.ref 0, .int x1, .int x2, .int x3, .ref 83] hp R := by
  refine cin (M := am_m366) rfl rfl rfl ?_
  refine cald2 2 ⟨u366J, _, rfl⟩ rfl rfl ?_
  refine ccst 3 (0) ⟨u366J, _, rfl⟩ rfl (by decide) (fun z2 h2 => ?_)
  refine cald 4 ⟨u366J, _, rfl⟩ rfl rfl ?_
  refine cild 5 ⟨u366J, _, rfl⟩ rfl rfl ?_
  refine cild 6 ⟨u366J, _, rfl⟩ rfl rfl ?_
  refine cild 7 ⟨u366J, _, rfl⟩ rfl rfl ?_
  refine ccall (kd := 0) (t := 3) [.ref 0, .int _, .int _, .int _] [.int _, .ref 83] hI.1 ⟨u366J, _, rfl⟩ (Or.inl ⟨_, rfl, rfl, by decide, by decide⟩) rfl rfl rfl ⟨rfl, rfl, rfl⟩ rfl (recv0 hI.1 _) rfl (qKE (Φ := fun z hp1 => bHk 84 bTT hp1 ∧ cF hp hp1 ∧ gCy V T x1.toInt x2.toInt x3.toInt = 0 ∧ clS hp1 (V, T, ty) n h sv ∧ z.toInt = ((cyL T x1.toInt.toNat x2.toInt.toNat (cyX V T x1.toInt x2.toInt x3.toInt) : Nat) : Int)) (Ψ := fun E hp1 => lawI hp1 ∧ rfS hp1 (V, T, ty) n h sv ∧ clS hp1 (V, T, ty) n h sv ∧ ¬ gCy V T x1.toInt x2.toInt x3.toInt = 0 ∧ ((gCy V T x1.toInt x2.toInt x3.toInt = 1 ∧ E = 1) ∨ (gCy V T x1.toInt x2.toInt x3.toInt = 2 ∧ E = 0) ∨ (gCy V T x1.toInt x2.toInt x3.toInt = 3 ∧ E = 3))) (fun R g1 g2 => k_141E (d := d + 14) hI.1 c (fun E hp1 b1 b2 b3 e1 e2 => g2 E hp1 ⟨law_cl hI b1 b2, cF_rf b2 r, b3, e1, e2⟩) (fun z hp1 a1 a2 a3 a4 a5 => g1 z hp1 ⟨a1, a2, a3, a4, a5⟩)) (fun z hp1 φ => Or.inl ⟨_, rfl, ?_⟩) (fun E hp1 ψ => Or.inr ?_))
  · refine ci2lE 11 ⟨u366J, _, rfl⟩ rfl (fun w hw => ?_)
    refine clastE 12 φ.1 ⟨u366J, _, rfl⟩ rfl h2 (fun hp2 hH2 F2 J2 => ?_)
    refine cgoto ⟨u366J, _, rfl⟩ ?_
    refine ccst 28 (0) ⟨u366J, _, rfl⟩ rfl (by decide) (fun z9 h9 => ?_)
    exact cret ⟨u366J, _, rfl⟩ (Or.inl rfl) (hR _ _ _ _ (lawI_83 (law_cl hI φ.1 φ.2.1) hH2 F2) (rf_83 F2 (cF_rf φ.2.1 r)) (by rw [φ.2.2.1]; exact h9) (Or.inr ⟨φ.2.2.1, cl_83 F2 φ.2.2.2.1, by rw [J2, hw]; exact φ.2.2.2.2⟩) (by decide) (by decide))
  · obtain ⟨ψ0, ψr, ψc, ψ1, ψ2⟩ := ψ
    rcases ψ2 with ⟨ce, rfl⟩ | ⟨ce, rfl⟩ | ⟨ce, rfl⟩
    · refine ⟨1, 15, 5, 17, rfl, rfl, rfl, rfl, ?_⟩
      refine ccst 18 (1) ⟨u366J, _, rfl⟩ rfl (by decide) (fun z9 h9 => ?_)
      exact cret ⟨u366J, _, rfl⟩ (Or.inl rfl) (hR _ _ _ _ ψ0 ψr (by rw [ce]; exact h9) (Or.inl ⟨ψ1, ψc⟩) (by decide) (by decide))
    · refine ⟨0, 19, 5, 21, rfl, rfl, rfl, rfl, ?_⟩
      refine ccst 22 (2) ⟨u366J, _, rfl⟩ rfl (by decide) (fun z9 h9 => ?_)
      exact cret ⟨u366J, _, rfl⟩ (Or.inl rfl) (hR _ _ _ _ ψ0 ψr (by rw [ce]; exact h9) (Or.inl ⟨ψ1, ψc⟩) (by decide) (by decide))
    · refine ⟨3, 23, 5, 25, rfl, rfl, rfl, rfl, ?_⟩
      refine ccst 26 (3) ⟨u366J, _, rfl⟩ rfl (by decide) (fun z9 h9 => ?_)
      exact cret ⟨u366J, _, rfl⟩ (Or.inl rfl) (hR _ _ _ _ ψ0 ψr (by rw [ce]; exact h9) (Or.inl ⟨ψ1, ψc⟩) (by decide) (by decide))
end
/-! ##### q31 ##### -/
section
/-! ===== cyclePoint on both sides ===== -/
def gCp (V : Nat) (T : sT) (a b c e : Int) : Int := if gCy V T a b c = 0 then (if 0 ≤ e ∧ e < ((cyL T a.toNat b.toNat (cyX V T a b c) : Nat) : Int) then 0 else 3) else gCy V T a b c
theorem gCp_0 {V : Nat} {T : sT} {a b c e : Int} : gCp V T a b c e = 0 ↔ gCy V T a b c = 0 ∧ 0 ≤ e ∧ e < ((cyL T a.toNat b.toNat (cyX V T a b c) : Nat) : Int) := by
  unfold gCp
  by_cases g : gCy V T a b c = 0
  · rw [if_pos g]
    split
    · next h => exact ⟨fun _ => ⟨g, h⟩, fun _ => rfl⟩
    · next h => exact ⟨fun z => by omega, fun z => absurd z.2 h⟩
  · rw [if_neg g]
    exact ⟨fun z => absurd z g, fun z => z.1⟩
theorem gCp_1 {V : Nat} {T : sT} {a b c e : Int} (h : ¬ gCy V T a b c = 0) : gCp V T a b c e = gCy V T a b c := by unfold gCp; rw [if_neg h]
theorem gCp_3 {V : Nat} {T : sT} {a b c e : Int} (h : gCy V T a b c = 0) (h2 : ¬ (0 ≤ e ∧ e < ((cyL T a.toNat b.toNat (cyX V T a b c) : Nat) : Int))) : gCp V T a b c e = 3 := by unfold gCp; rw [if_pos h, if_neg h2]
theorem u142 : bUp 0 am_m142.1 = true := by decide +kernel
theorem k_142E {d V n : Nat} {h : Nat → sR} {sv : Option sR} {T : sT} {ty : Nat → Int} {hp : amH} {R : xQ} {a b c e : Int32} (hH : bHk 84 bTT hp) (hS : clS hp (V, T, ty) n h sv)
    (hT : ∀ E hp1, bHk 84 bTT hp1 → cF hp hp1 → clS hp1 (V, T, ty) n h sv → ¬ gCp V T a.toInt b.toInt c.toInt e.toInt = 0 → ((gCp V T a.toInt b.toInt c.toInt e.toInt = 1 ∧ E = 1) ∨ (gCp V T a.toInt b.toInt c.toInt e.toInt = 2 ∧ E = 0) ∨ (gCp V T a.toInt b.toInt c.toInt e.toInt = 3 ∧ E = 3)) → R (.inr E) hp1)
    (hR : ∀ (z : Int32) hp1, bHk 84 bTT hp1 → cF hp hp1 → gCp V T a.toInt b.toInt c.toInt e.toInt = 0 → clS hp1 (V, T, ty) n h sv → z.toInt = ((rk T a.toInt.toNat b.toInt.toNat (cyX V T a.toInt b.toInt c.toInt) e.toInt.toNat : Nat) : Int) → R (.inl (some (.int z))) hp1) : xK (d + 5) 142 [.ref 0, .int a, .int b, .int c, .int e] hp R := by
  have hB : bdOk hp 3 V T := hS.1
  have b0 : rN hp 3 0 = (V : Int) := hB.1
  have hL : lsN hp 3 T 225 := hS.2.1
  have b1 : rN hp 3 1 = (((trL T 225).length : Nat) : Int) := hL.1
  have hT0 : sOk V T := hB.2.1
  have h15 : V ≤ 15 := hT0.2.1
  have l35 : (trL T 225).length ≤ 35 := trL_35 hT0 225
  have nq0 : rN hp 49 0 = ((nQ T : Nat) : Int) := hS.2.2.1.1
  refine xin (M := am_m142) rfl rfl rfl ?_
  refine xald 1 ⟨u142, _, rfl⟩ rfl rfl ?_
  refine xild 2 ⟨u142, _, rfl⟩ rfl rfl ?_
  refine xild 3 ⟨u142, _, rfl⟩ rfl rfl ?_
  refine xild 4 ⟨u142, _, rfl⟩ rfl rfl ?_
  refine xcallT 7 (o := 0) [.int _, .int _, .int _] [] hH ⟨u142, _, rfl⟩ rfl rfl (by decide) rfl (by decide) rfl ⟨rfl, rfl, rfl, rfl⟩ rfl (k_rqC hH hS (fun E g2 e9 => Or.inr ⟨_, rfl, rfl, hT _ hp hH cF.refl hS (fun z => g2 (gCy_0.mp (gCp_0.mp z).1).1) (by
    have gn : ¬ gCy V T a.toInt b.toInt c.toInt = 0 := fun z => g2 (gCy_0.mp z).1
    have gc : gCy V T a.toInt b.toInt c.toInt = gTwo V a.toInt b.toInt := by unfold gCy; rw [if_neg g2]
    rw [gCp_1 gn, gc]
    rcases e9 with e9 | e9 | e9
    · exact Or.inl e9
    · exact Or.inr (Or.inl e9)
    · exfalso; have := gTwo_12 (V := V) (a := a.toInt) (b := b.toInt); omega)⟩) (fun hp4 hH4 F4 g2 g3 => Or.inr ⟨_, rfl, rfl, hT _ hp4 hH4 (cF_x F4 (by simp)) (clS_8 hS (fun c k hc => F4 c k (by simp; omega))) (fun z => g3 (gCy_0.mp (gCp_0.mp z).1).2) (Or.inr (Or.inr ⟨by rw [gCp_1 (fun z => g3 (gCy_0.mp z).2)]; unfold gCy; rw [if_pos g2, if_neg g3], rfl⟩))⟩) (fun hp4 hH4 F4 g2 g3 g4 C4 => Or.inl ⟨_, rfl, ?_⟩))
  have k2 := gTwo_0.mp g2
  have g0 : gCy V T a.toInt b.toInt c.toInt = 0 := gCy_0.mpr ⟨g2, g3, g4⟩
  obtain ⟨c1, c2, c3, c4, c5⟩ := C4
  have lq : c.toInt.toNat < (cyS T a.toInt.toNat b.toInt.toNat V).length := by omega
  obtain ⟨y1, y2, y3⟩ := cy_15 (T := T) (n := V) hT0 (a := a.toInt.toNat) (b := b.toInt.toNat) (by omega) (by omega) (by omega) (Nat.le_refl V)
  have f1 := c4 c.toInt.toNat (by omega)
  have f2 := c4 (c.toInt.toNat + 1) (by omega)
  have f3 := offs_s (T := T) (a := a.toInt.toNat) (b := b.toInt.toNat) (L := cyS T a.toInt.toNat b.toInt.toNat V) (q := c.toInt.toNat)
  have f4 := y3 (c.toInt.toNat + 1) (by omega)
  have ex : cyX V T a.toInt b.toInt c.toInt = (cyS T a.toInt.toNat b.toInt.toNat V).getD c.toInt.toNat 0 := rfl
  have f5 := c5 c.toInt.toNat lq
  rw [← ex] at f3 f5
  have f6 := y3 c.toInt.toNat (by omega)
  refine xild2 9 ⟨u142, _, rfl⟩ rfl rfl ?_
  refine xif_lt 12 ⟨u142, _, rfl⟩ rfl (fun c9 => ?_) (fun c9 => ?_)
  · exact xthr ⟨u142, _, rfl⟩ (by decide) rfl (by decide) (hT _ hp4 hH4 (cF_x F4 (by simp)) (clS_8 hS (fun c k hc => F4 c k (by simp; omega))) (by rw [gCp_3 g0 (by omega)]; decide) (Or.inr (Or.inr ⟨gCp_3 g0 (by omega), rfl⟩)))
  · refine xild2 14 ⟨u142, _, rfl⟩ rfl rfl ?_
    refine xald 15 ⟨u142, _, rfl⟩ rfl rfl ?_
    refine xgetD 18 (52) hH4 ⟨u142, _, rfl⟩ rfl (by decide) (by decide) rfl rfl (by decide) ?_
    refine xild 19 ⟨u142, _, rfl⟩ rfl rfl ?_
    refine xcallC 22 (o := 52) [.int _] [.int _] hH4 ⟨u142, _, rfl⟩ rfl rfl (by decide) rfl (by decide) rfl ⟨rfl, rfl, rfl, rfl⟩ rfl (k_lngC hH4 (n := c.toInt.toNat) (by omega) (by omega) (by omega) (by omega) (by omega) (fun z19 h19 => ⟨_, rfl, ?_⟩))
    refine xcmp_lt 25 ⟨u142, _, rfl⟩ rfl (fun c22 => ?_) (fun c22 => ?_)
    · refine xald 36 ⟨u142, _, rfl⟩ rfl rfl ?_
      refine xgetD 39 (52) hH4 ⟨u142, _, rfl⟩ rfl (by decide) (by decide) rfl rfl (by decide) ?_
      refine xild 40 ⟨u142, _, rfl⟩ rfl rfl ?_
      refine xild2 42 ⟨u142, _, rfl⟩ rfl rfl ?_
      refine xcallC 45 (o := 52) [.int _, .int _] [] hH4 ⟨u142, _, rfl⟩ rfl rfl (by decide) rfl (by decide) rfl ⟨rfl, rfl, rfl, rfl⟩ rfl (k_ptC hH4 (n := c.toInt.toNat) (k := e.toInt.toNat) (by omega) (by omega) (by omega) (by omega) (by omega) (fun z42 h42 => ⟨_, rfl, ?_⟩))
      have f7 := (f5 e.toInt.toNat (by omega)).1
      exact xret ⟨u142, _, rfl⟩ rfl (hR _ hp4 hH4 (cF_x F4 (by simp)) (gCp_0.mpr ⟨g0, by omega, by omega⟩) (clS_8 hS (fun c k hc => F4 c k (by simp; omega))) (by rw [h42, ← f7]; congr 1; omega))
    · exact xthr ⟨u142, _, rfl⟩ (by decide) rfl (by decide) (hT _ hp4 hH4 (cF_x F4 (by simp)) (clS_8 hS (fun c k hc => F4 c k (by simp; omega))) (by rw [gCp_3 g0 (by omega)]; decide) (Or.inr (Or.inr ⟨gCp_3 g0 (by omega), rfl⟩)))
theorem u299 : bUp 0 am_m299.1 = true := by decide +kernel
theorem k_299E {d V n : Nat} {h : Nat → sR} {sv : Option sR} {T : sT} {ty : Nat → Int} {hp : amH} {R : xQ} {a b c e : Int32} (hH : bHk 84 bTT hp) (hP : P0 hp) (hS : rfS hp (V, T, ty) n h sv)
    (hR : ∀ (z : Int32) hp1, bHk 84 bTT hp1 → P0 hp1 → bFr wM hp hp1 → rN hp1 66 7 = gCp V T a.toInt b.toInt c.toInt e.toInt → ((¬ gCp V T a.toInt b.toInt c.toInt e.toInt = 0 ∧ rfS hp1 (V, T, ty) n h sv) ∨ (gCp V T a.toInt b.toInt c.toInt e.toInt = 0 ∧ rfS hp1 (V, T, ty) n h sv ∧ z.toInt = ((rk T a.toInt.toNat b.toInt.toNat (cyX V T a.toInt b.toInt c.toInt) e.toInt.toNat : Nat) : Int))) → R (.inl (some (.int z))) hp1) : xK (d + 5) 299 [.ref 66, .int a, .int b, .int c, .int e] hp R := by
  have hB : rdOk hp V T := rowOk_rd hS.1
  have b0 : rN hp 67 0 = (V : Int) := hB.1
  have hT0 : sOk V T := hB.2.1
  have h15 : V ≤ 15 := hT0.2.1
  have l35 : (trL T 225).length ≤ 35 := trL_35 hT0 225
  refine xin (M := am_m299) rfl rfl rfl ?_
  refine xald 1 ⟨u299, _, rfl⟩ rfl rfl ?_
  refine xild 2 ⟨u299, _, rfl⟩ rfl rfl ?_
  refine xild 3 ⟨u299, _, rfl⟩ rfl rfl ?_
  refine xild 4 ⟨u299, _, rfl⟩ rfl rfl ?_
  refine xcall 7 [.ref 66, .int _, .int _, .int _] [] hH ⟨u299, _, rfl⟩ rfl rfl rfl rfl rfl (k_259E hH hP (rowOk_rd hS.1) (fun z4 hp4 hH4 P4 F4 t4 o4 => ⟨_, rfl, ?_⟩))
  have S4 := rfS_W hS F4 (fun _ => rfl) rfl rfl (fun _ => rfl) (fun _ => rfl)
  refine xif_ne 10 ⟨u299, _, rfl⟩ rfl (fun c7 => ?_) (fun c7 => ?_)
  · refine xcst 39 (0) ⟨u299, _, rfl⟩ rfl (by decide) (fun z38 h38 => ?_)
    rcases o4 with ⟨-, q1, -⟩ | ⟨g1, -⟩
    · omega
    · exact xret ⟨u299, _, rfl⟩ rfl (hR _ hp4 hH4 P4 (bFr_sub F4 (by decide)) (by rw [t4, gCp_1 g1]) (Or.inl ⟨by rw [gCp_1 g1]; exact g1, S4⟩))
  · obtain ⟨g0, r1, r2⟩ : gCy V T a.toInt b.toInt c.toInt = 0 ∧ rN hp4 66 17 = ((cyL T a.toInt.toNat b.toInt.toNat (cyX V T a.toInt b.toInt c.toInt) : Nat) : Int) ∧ ∀ k, k < cyL T a.toInt.toNat b.toInt.toNat (cyX V T a.toInt b.toInt c.toInt) → rN hp4 78 k = ((rk T a.toInt.toNat b.toInt.toNat (cyX V T a.toInt b.toInt c.toInt) k : Nat) : Int) := by
      rcases o4 with ⟨g0, -, r1, r2⟩ | ⟨-, q1⟩
      · exact ⟨g0, r1, r2⟩
      · omega
    have k2 := gTwo_0.mp (gCy_0.mp g0).1
    have kq := (gCy_0.mp g0).2
    have l15 : cyL T a.toInt.toNat b.toInt.toNat (cyX V T a.toInt b.toInt c.toInt) ≤ 15 := by
      rcases Nat.eq_zero_or_pos (cyL T a.toInt.toNat b.toInt.toNat (cyX V T a.toInt b.toInt c.toInt)) with z | z
      · omega
      · exact (cyL_s hT0 z).1
    refine xald 11 ⟨u299, _, rfl⟩ rfl rfl ?_
    refine xild2 13 ⟨u299, _, rfl⟩ rfl rfl ?_
    refine xcst 14 (0) ⟨u299, _, rfl⟩ rfl (by decide) (fun z13 h13 => ?_)
    refine xald 15 ⟨u299, _, rfl⟩ rfl rfl ?_
    refine xgetI 18 hH4 ⟨u299, _, rfl⟩ rfl rfl (fun z15 h15 => ?_)
    refine xcst 19 (1) ⟨u299, _, rfl⟩ rfl (by decide) (fun z18 h18 => ?_)
    refine xsub 20 _ ⟨u299, _, rfl⟩ rfl rfl (by omega) (by omega) (fun z19 h19 => ?_)
    refine xcallS 23 [.int _, .int _, .int _] [.ref 66] hH4 ⟨u299, _, rfl⟩ rfl rfl rfl rfl rfl (k_inr (fun z20 h20 => ⟨_, rfl, ?_⟩))
    refine xif_ne 26 ⟨u299, _, rfl⟩ rfl (fun c23 => ?_) (fun c23 => ?_)
    · refine xcst 31 (0) ⟨u299, _, rfl⟩ rfl (by decide) (fun z30 h30 => ?_)
      refine xcst 32 (3) ⟨u299, _, rfl⟩ rfl (by decide) (fun z31 h31 => ?_)
      refine xcall 35 [.ref 66, .int _, .int _] [] hH4 ⟨u299, _, rfl⟩ rfl rfl rfl rfl rfl (k_failsE hH4 (by omega) (fun hp32 hH32 V32 => ⟨_, rfl, ?_⟩))
      refine xif_eq 38 ⟨u299, _, rfl⟩ rfl (fun c35 => ?_) (fun c35 => ?_)
      · have hpe : hp4 = hp32 := by
          rcases V32 with ⟨q1, e⟩ | ⟨q1, -⟩
          · exact e.symm
          · omega
        subst hpe
        have g9 : gCp V T a.toInt b.toInt c.toInt e.toInt = 0 := gCp_0.mpr ⟨g0, by omega, by omega⟩
        refine xald 41 ⟨u299, _, rfl⟩ rfl rfl ?_
        refine xgetR 44 78 hH32 ⟨u299, _, rfl⟩ rfl rfl ?_
        refine xild2 46 ⟨u299, _, rfl⟩ rfl rfl ?_
        refine xiald 47 (e).toInt.toNat hH32 ⟨u299, _, rfl⟩ rfl (by decide) rfl (by omega) (by omega) (fun z46 h46 => ?_)
        exact xret ⟨u299, _, rfl⟩ rfl (hR _ hp4 hH32 P4 (bFr_sub F4 (by decide)) (by rw [t4, g9]; exact g0) (Or.inr ⟨g9, S4, by rw [h46]; exact r2 _ (by omega)⟩))
      · rcases V32 with ⟨q1, -⟩ | ⟨q1, -⟩ <;> omega
    · refine xcst 27 (1) ⟨u299, _, rfl⟩ rfl (by decide) (fun z26 h26 => ?_)
      refine xgoto ⟨u299, _, rfl⟩ ?_
      refine xcst 32 (3) ⟨u299, _, rfl⟩ rfl (by decide) (fun z31 h31 => ?_)
      refine xcall 35 [.ref 66, .int _, .int _] [] hH4 ⟨u299, _, rfl⟩ rfl rfl rfl rfl rfl (k_failsE hH4 (by omega) (fun hp32 hH32 V32 => ⟨_, rfl, ?_⟩))
      refine xif_eq 38 ⟨u299, _, rfl⟩ rfl (fun c35 => ?_) (fun c35 => ?_)
      · rcases V32 with ⟨q1, -⟩ | ⟨q1, -⟩ <;> omega
      · refine xcst 39 (0) ⟨u299, _, rfl⟩ rfl (by decide) (fun z38 h38 => ?_)
        rcases V32 with ⟨q1, -⟩ | ⟨q1, U⟩
        · omega
        · have g1 := gCp_3 (e := e.toInt) g0 (by omega)
          exact xret ⟨u299, _, rfl⟩ rfl (hR _ hp32 hH32 (P0_W (W := [(66, 7)]) (by decide) (rU_fr U rfl) P4) ((bFr_sub F4 (by decide)).trans (rU_fr U (by decide))) (by rw [U.1, g1]; omega) (Or.inl ⟨by rw [g1]; decide, rfS_W (W := [(66, 7)]) S4 (rU_fr U rfl) (fun _ => rfl) rfl rfl (fun _ => rfl) (fun _ => rfl)⟩))
theorem h367E {d : Nat} {hp : amH} {R : cQ} {x1 x2 x3 x4 : Int32} {V n : Nat} {h : Nat → sR} {sv : Option sR} {T : sT} {ty : Nat → Int} (hI : lawI hp) (c : clS hp (V, T, ty) n h sv) (r : rfS hp (V, T, ty) n h sv)
    (hR : ∀ (z : Int32) hp1 mc ms, lawI hp1 → rfS hp1 (V, T, ty) n h sv → z.toInt = gCp V T x1.toInt x2.toInt x3.toInt x4.toInt → ((¬ gCp V T x1.toInt x2.toInt x3.toInt x4.toInt = 0 ∧ clS hp1 (V, T, ty) n h sv) ∨ (gCp V T x1.toInt x2.toInt x3.toInt x4.toInt = 0 ∧ clS hp1 (V, T, ty) n h sv ∧ rJ hp1 83 0 = ((rk T x1.toInt.toNat x2.toInt.toNat (cyX V T x1.toInt x2.toInt x3.toInt) x4.toInt.toNat : Nat) : Int))) → mc ≤ 1 → ms ≤ 6 → R (.inl (some (.int z))) hp1 mc ms) : cK (d + 20) 367 [.ref 0, .int x1, .int x2, .int x3, .int x4, .ref 83] hp R := by
  refine cin (M := am_m367) rfl rfl rfl ?_
  refine cald2 2 ⟨u367J, _, rfl⟩ rfl rfl ?_
  refine ccst 3 (0) ⟨u367J, _, rfl⟩ rfl (by decide) (fun z2 h2 => ?_)
  refine cald 4 ⟨u367J, _, rfl⟩ rfl rfl ?_
  refine cild 5 ⟨u367J, _, rfl⟩ rfl rfl ?_
  refine cild 6 ⟨u367J, _, rfl⟩ rfl rfl ?_
  refine cild 7 ⟨u367J, _, rfl⟩ rfl rfl ?_
  refine cild2 9 ⟨u367J, _, rfl⟩ rfl rfl ?_
  refine ccall (kd := 0) (t := 3) [.ref 0, .int _, .int _, .int _, .int _] [.int _, .ref 83] hI.1 ⟨u367J, _, rfl⟩ (Or.inl ⟨_, rfl, rfl, by decide, by decide⟩) rfl rfl rfl ⟨rfl, rfl, rfl⟩ rfl (recv0 hI.1 _) rfl (qKE (Φ := fun z hp1 => bHk 84 bTT hp1 ∧ cF hp hp1 ∧ gCp V T x1.toInt x2.toInt x3.toInt x4.toInt = 0 ∧ clS hp1 (V, T, ty) n h sv ∧ z.toInt = ((rk T x1.toInt.toNat x2.toInt.toNat (cyX V T x1.toInt x2.toInt x3.toInt) x4.toInt.toNat : Nat) : Int)) (Ψ := fun E hp1 => lawI hp1 ∧ rfS hp1 (V, T, ty) n h sv ∧ clS hp1 (V, T, ty) n h sv ∧ ¬ gCp V T x1.toInt x2.toInt x3.toInt x4.toInt = 0 ∧ ((gCp V T x1.toInt x2.toInt x3.toInt x4.toInt = 1 ∧ E = 1) ∨ (gCp V T x1.toInt x2.toInt x3.toInt x4.toInt = 2 ∧ E = 0) ∨ (gCp V T x1.toInt x2.toInt x3.toInt x4.toInt = 3 ∧ E = 3))) (fun R g1 g2 => k_142E (d := d + 14) hI.1 c (fun E hp1 b1 b2 b3 e1 e2 => g2 E hp1 ⟨law_cl hI b1 b2, cF_rf b2 r, b3, e1, e2⟩) (fun z hp1 a1 a2 a3 a4 a5 => g1 z hp1 ⟨a1, a2, a3, a4, a5⟩)) (fun z hp1 φ => Or.inl ⟨_, rfl, ?_⟩) (fun E hp1 ψ => Or.inr ?_))
  · refine ci2lE 13 ⟨u367J, _, rfl⟩ rfl (fun w hw => ?_)
    refine clastE 14 φ.1 ⟨u367J, _, rfl⟩ rfl h2 (fun hp2 hH2 F2 J2 => ?_)
    refine cgoto ⟨u367J, _, rfl⟩ ?_
    refine ccst 30 (0) ⟨u367J, _, rfl⟩ rfl (by decide) (fun z9 h9 => ?_)
    exact cret ⟨u367J, _, rfl⟩ (Or.inl rfl) (hR _ _ _ _ (lawI_83 (law_cl hI φ.1 φ.2.1) hH2 F2) (rf_83 F2 (cF_rf φ.2.1 r)) (by rw [φ.2.2.1]; exact h9) (Or.inr ⟨φ.2.2.1, cl_83 F2 φ.2.2.2.1, by rw [J2, hw]; exact φ.2.2.2.2⟩) (by decide) (by decide))
  · obtain ⟨ψ0, ψr, ψc, ψ1, ψ2⟩ := ψ
    rcases ψ2 with ⟨ce, rfl⟩ | ⟨ce, rfl⟩ | ⟨ce, rfl⟩
    · refine ⟨1, 17, 6, 19, rfl, rfl, rfl, rfl, ?_⟩
      refine ccst 20 (1) ⟨u367J, _, rfl⟩ rfl (by decide) (fun z9 h9 => ?_)
      exact cret ⟨u367J, _, rfl⟩ (Or.inl rfl) (hR _ _ _ _ ψ0 ψr (by rw [ce]; exact h9) (Or.inl ⟨ψ1, ψc⟩) (by decide) (by decide))
    · refine ⟨0, 21, 6, 23, rfl, rfl, rfl, rfl, ?_⟩
      refine ccst 24 (2) ⟨u367J, _, rfl⟩ rfl (by decide) (fun z9 h9 => ?_)
      exact cret ⟨u367J, _, rfl⟩ (Or.inl rfl) (hR _ _ _ _ ψ0 ψr (by rw [ce]; exact h9) (Or.inl ⟨ψ1, ψc⟩) (by decide) (by decide))
    · refine ⟨3, 25, 6, 27, rfl, rfl, rfl, rfl, ?_⟩
      refine ccst 28 (3) ⟨u367J, _, rfl⟩ rfl (by decide) (fun z9 h9 => ?_)
      exact cret ⟨u367J, _, rfl⟩ (Or.inl rfl) (hR _ _ _ _ ψ0 ψr (by rw [ce]; exact h9) (Or.inl ⟨ψ1, ψc⟩) (by decide) (by decide))
end
/-! ##### q33 ##### -/
section
/-! ===== wouldHaveBy's helper ===== -/
theorem h369E {d : Nat} {hp : amH} {R : cQ} {x1 x2 x3 : Int32} {V n : Nat} {h : Nat → sR} {sv : Option sR} {T : sT} {ty : Nat → Int} (hI : lawI hp) (c : clS hp (V, T, ty) n h sv) (r : rfS hp (V, T, ty) n h sv)
    (hR : ∀ (z : Int32) hp1 mc ms, lawI hp1 → rfS hp1 (V, T, ty) n h sv → z.toInt = gCy V T x1.toInt x2.toInt x3.toInt → ((¬ gCy V T x1.toInt x2.toInt x3.toInt = 0 ∧ clS hp1 (V, T, ty) n h sv) ∨ (gCy V T x1.toInt x2.toInt x3.toInt = 0 ∧ clS hp1 (V, T, ty) n h sv ∧ rJ hp1 83 0 = ((nQ (swC T x1.toInt.toNat x2.toInt.toNat (cyX V T x1.toInt x2.toInt x3.toInt)) : Nat) : Int))) → mc ≤ 1 → ms ≤ 6 → R (.inl (some (.int z))) hp1 mc ms) : cK (d + 20) 369 [.ref 0, .int x1, .int x2, .int x3, .ref 83] hp R := by
  refine cin (M := am_m369) rfl rfl rfl ?_
  refine cald2 2 ⟨u369J, _, rfl⟩ rfl rfl ?_
  refine ccst 3 (0) ⟨u369J, _, rfl⟩ rfl (by decide) (fun z2 h2 => ?_)
  refine cald 4 ⟨u369J, _, rfl⟩ rfl rfl ?_
  refine cild 5 ⟨u369J, _, rfl⟩ rfl rfl ?_
  refine cild 6 ⟨u369J, _, rfl⟩ rfl rfl ?_
  refine cild 7 ⟨u369J, _, rfl⟩ rfl rfl ?_
  refine ccall (kd := 0) (t := 3) [.ref 0, .int _, .int _, .int _] [.int _, .ref 83] hI.1 ⟨u369J, _, rfl⟩ (Or.inl ⟨_, rfl, rfl, by decide, by decide⟩) rfl rfl rfl ⟨rfl, rfl, rfl⟩ rfl (recv0 hI.1 _) rfl (qKE (Φ := fun z hp1 => bHk 84 bTT hp1 ∧ cF hp hp1 ∧ gCy V T x1.toInt x2.toInt x3.toInt = 0 ∧ clS hp1 (V, T, ty) n h sv ∧ z.toInt = ((nQ (swC T x1.toInt.toNat x2.toInt.toNat (cyX V T x1.toInt x2.toInt x3.toInt)) : Nat) : Int)) (Ψ := fun E hp1 => lawI hp1 ∧ rfS hp1 (V, T, ty) n h sv ∧ clS hp1 (V, T, ty) n h sv ∧ ¬ gCy V T x1.toInt x2.toInt x3.toInt = 0 ∧ ((gCy V T x1.toInt x2.toInt x3.toInt = 1 ∧ E = 1) ∨ (gCy V T x1.toInt x2.toInt x3.toInt = 2 ∧ E = 0) ∨ (gCy V T x1.toInt x2.toInt x3.toInt = 3 ∧ E = 3))) (fun R g1 g2 => k_144E (d := d + 14) hI.1 c (fun E e1 e2 => g2 E hp ⟨hI, r, c, (fun z => e1 (gCy_0.mp z).1), (by
      have gc : gCy V T x1.toInt x2.toInt x3.toInt = gTwo V x1.toInt x2.toInt := by unfold gCy; rw [if_neg e1]
      rw [gc]
      rcases e2 with z | z | z
      · exact Or.inl z
      · exact Or.inr (Or.inl z)
      · exfalso; have := gTwo_12 (V := V) (a := x1.toInt) (b := x2.toInt); omega)⟩) (fun hp1 b1 b2 b3 b4 b5 => g2 3 hp1 ⟨law_cl hI b1 b2, cF_rf b2 r, b3, (fun z => b5 (gCy_0.mp z).2), Or.inr (Or.inr ⟨by unfold gCy; rw [if_pos b4, if_neg b5], rfl⟩)⟩) (fun z hp1 a1 a2 a3 a4 a5 a6 a7 => g1 z hp1 ⟨a1, a2, gCy_0.mpr ⟨a3, a4, a5⟩, a6, a7⟩)) (fun z hp1 φ => Or.inl ⟨_, rfl, ?_⟩) (fun E hp1 ψ => Or.inr ?_))
  · refine ci2lE 11 ⟨u369J, _, rfl⟩ rfl (fun w hw => ?_)
    refine clastE 12 φ.1 ⟨u369J, _, rfl⟩ rfl h2 (fun hp2 hH2 F2 J2 => ?_)
    refine cgoto ⟨u369J, _, rfl⟩ ?_
    refine ccst 28 (0) ⟨u369J, _, rfl⟩ rfl (by decide) (fun z9 h9 => ?_)
    exact cret ⟨u369J, _, rfl⟩ (Or.inl rfl) (hR _ _ _ _ (lawI_83 (law_cl hI φ.1 φ.2.1) hH2 F2) (rf_83 F2 (cF_rf φ.2.1 r)) (by rw [φ.2.2.1]; exact h9) (Or.inr ⟨φ.2.2.1, cl_83 F2 φ.2.2.2.1, by rw [J2, hw]; exact φ.2.2.2.2⟩) (by decide) (by decide))
  · obtain ⟨ψ0, ψr, ψc, ψ1, ψ2⟩ := ψ
    rcases ψ2 with ⟨ce, rfl⟩ | ⟨ce, rfl⟩ | ⟨ce, rfl⟩
    · refine ⟨1, 15, 5, 17, rfl, rfl, rfl, rfl, ?_⟩
      refine ccst 18 (1) ⟨u369J, _, rfl⟩ rfl (by decide) (fun z9 h9 => ?_)
      exact cret ⟨u369J, _, rfl⟩ (Or.inl rfl) (hR _ _ _ _ ψ0 ψr (by rw [ce]; exact h9) (Or.inl ⟨ψ1, ψc⟩) (by decide) (by decide))
    · refine ⟨0, 19, 5, 21, rfl, rfl, rfl, rfl, ?_⟩
      refine ccst 22 (2) ⟨u369J, _, rfl⟩ rfl (by decide) (fun z9 h9 => ?_)
      exact cret ⟨u369J, _, rfl⟩ (Or.inl rfl) (hR _ _ _ _ ψ0 ψr (by rw [ce]; exact h9) (Or.inl ⟨ψ1, ψc⟩) (by decide) (by decide))
    · refine ⟨3, 23, 5, 25, rfl, rfl, rfl, rfl, ?_⟩
      refine ccst 26 (3) ⟨u369J, _, rfl⟩ rfl (by decide) (fun z9 h9 => ?_)
      exact cret ⟨u369J, _, rfl⟩ (Or.inl rfl) (hR _ _ _ _ ψ0 ψr (by rw [ce]; exact h9) (Or.inl ⟨ψ1, ψc⟩) (by decide) (by decide))
end
/-! ##### qcy ##### -/
section
/-! ===== cycles of a length ===== -/
/-- how many cycles of two points have a length -/
def cyN (V : Nat) (T : sT) (L : Int) (a b n : Nat) : Nat := sm (fun x => iv (cyB T a b x = true ∧ ((cyL T a b x : Nat) : Int) = L)) n
theorem cyN_le {V : Nat} {T : sT} {L : Int} {a b : Nat} : ∀ n, cyN V T L a b n ≤ n
  | 0 => Nat.le_refl _
  | n + 1 => by
    have h1 := cyN_le (V := V) (T := T) (L := L) (a := a) (b := b) n
    have h2 : iv (cyB T a b n = true ∧ ((cyL T a b n : Nat) : Int) = L) ≤ 1 := iv_le
    show cyN V T L a b n + iv (cyB T a b n = true ∧ ((cyL T a b n : Nat) : Int) = L) ≤ n + 1
    omega
theorem rev_indB {P : List Nat → Prop} (nil : P []) (append_singleton : ∀ (L : List Nat) (x : Nat), P L → P (L ++ [x])) (L : List Nat) : P L := by
  have key : ∀ (n : Nat) (L : List Nat), L.length = n → P L := by
    intro n
    induction n with
    | zero => intro L e; rw [List.eq_nil_of_length_eq_zero e]; exact nil
    | succ n ih =>
      intro L e
      have hne : ¬ L = [] := fun w => by rw [w] at e; cases e
      have q := List.dropLast_concat_getLast hne
      exact Eq.subst (motive := P) q (append_singleton _ _ (ih _ (by rw [List.length_dropLast, e]; rfl)))
  exact key _ L rfl
theorem cP_smL {h : Nat → Bool} : ∀ L : List Nat, L.countP h = sm (fun q => iv (h (L.getD q 0) = true)) L.length := by
  intro L
  induction L using rev_indB with
  | nil => rfl
  | append_singleton L x ih =>
    rw [List.countP_append, List.length_append, List.length_singleton, ih]
    show _ = sm (fun q => iv (h ((L ++ [x]).getD q 0) = true)) L.length + iv (h ((L ++ [x]).getD L.length 0) = true)
    rw [sm_ext (g := fun q => iv (h (L.getD q 0) = true)) L.length (fun i hi => by rw [gd_app hi]), gd_end]
    congr 1
    by_cases g : h x = true
    · rw [iv_t g]; simp [g]
    · rw [iv_f g]; simp [g]
theorem cyN_S {V : Nat} {T : sT} {L : Int} {a b n : Nat} : sm (fun q => iv (((cyL T a b ((cyS T a b n).getD q 0) : Nat) : Int) = L)) (cyS T a b n).length = cyN V T L a b n := by
  have e := cP_smL (h := fun x => decide (((cyL T a b x : Nat) : Int) = L)) (cyS T a b n)
  have e2 := fL_cP (B := cyB T a b) (h := fun x => decide (((cyL T a b x : Nat) : Int) = L)) n
  unfold cyN
  rw [sm_ext (g := fun i => iv (cyB T a b i = true ∧ decide (((cyL T a b i : Nat) : Int) = L) = true)) n (fun i _ => iv_eq (by rw [decide_eq_true_iff])), ← e2, e]
  exact sm_ext _ (fun i _ => iv_eq (by rw [decide_eq_true_iff]))
theorem dg_leC {f : Nat → Nat} (h : ∀ i, f i ≤ 1) : ∀ n, sm f n ≤ n
  | 0 => Nat.le_refl _
  | n + 1 => by
    have h1 := dg_leC h n
    have h2 := h n
    show sm f n + f n ≤ n + 1
    omega
theorem u42 : bUp 0 am_m42.1 = true := by decide +kernel
theorem l42E {d a b V : Nat} {T : sT} {hp : amH} {R : xQ} {wl : Int32} (hT : sOk V T) (hH : bHk 84 bTT hp) (hC : cyP hp T a b V) (aV : a < V) (bV : b < V) (hab : ¬ a = b)
    (hR : ∀ z : Int32, z.toInt = ((cyN V T wl.toInt a b V : Nat) : Int) → R (.inl (some (.int z))) hp) :
    ∀ (jj t : Nat) (w wt : Int32), wt.toInt = (t : Int) → t + jj = (cyS T a b V).length → w.toInt = ((sm (fun q => iv (((cyL T a b ((cyS T a b V).getD q 0) : Nat) : Int) = wl.toInt)) t : Nat) : Int) → xV (d + 2) am_m42 4 [some (.ref 52), some (.int wl), some (.int w), some (.int wt)] [] hp R := by
  obtain ⟨c1, c2, c3, c4, c5⟩ := hC
  obtain ⟨y1, y2, y3⟩ := cy_15 (T := T) (n := V) hT aV bV hab (Nat.le_refl V)
  intro jj
  induction jj with
  | zero =>
    intro t w wt hwt hj hw
    have et : t = (cyS T a b V).length := by omega
    rw [et, cyN_S (V := V)] at hw
    refine xild 5 ⟨u42, _, rfl⟩ rfl rfl ?_
    refine xald 6 ⟨u42, _, rfl⟩ rfl rfl ?_
    refine xgetC 9 hH ⟨u42, _, rfl⟩ rfl (by decide) (by decide) rfl rfl (by decide) (fun z6 h6 => ?_)
    refine xcmp_ge 12 ⟨u42, _, rfl⟩ rfl (fun c9 => ?_) (fun c9 => ?_)
    · refine xild 31 ⟨u42, _, rfl⟩ rfl rfl ?_
      exact xret ⟨u42, _, rfl⟩ rfl (hR _ hw)
    · omega
  | succ jj ih =>
    intro t w wt hwt hj hw
    have f1 := c4 t (by omega)
    have f2 := c4 (t + 1) (by omega)
    have f3 := offs_s (T := T) (a := a) (b := b) (L := cyS T a b V) (q := t)
    have f4 := y3 (t + 1) (by omega)
    have kl := dg_leC (f := fun q => iv (((cyL T a b ((cyS T a b V).getD q 0) : Nat) : Int) = wl.toInt)) (fun i => iv_le) t
    have k3 : sm (fun q => iv (((cyL T a b ((cyS T a b V).getD q 0) : Nat) : Int) = wl.toInt)) (t + 1) = sm (fun q => iv (((cyL T a b ((cyS T a b V).getD q 0) : Nat) : Int) = wl.toInt)) t + iv (((cyL T a b ((cyS T a b V).getD t 0) : Nat) : Int) = wl.toInt) := rfl
    refine xild 5 ⟨u42, _, rfl⟩ rfl rfl ?_
    refine xald 6 ⟨u42, _, rfl⟩ rfl rfl ?_
    refine xgetC 9 hH ⟨u42, _, rfl⟩ rfl (by decide) (by decide) rfl rfl (by decide) (fun z6 h6 => ?_)
    refine xcmp_ge 12 ⟨u42, _, rfl⟩ rfl (fun c9 => ?_) (fun c9 => ?_)
    · omega
    · refine xald 13 ⟨u42, _, rfl⟩ rfl rfl ?_
      refine xild 14 ⟨u42, _, rfl⟩ rfl rfl ?_
      refine xcallC 17 (o := 52) [.int _] [] hH ⟨u42, _, rfl⟩ rfl rfl (by decide) rfl (by decide) rfl ⟨rfl, rfl, rfl, rfl⟩ rfl (k_lngC hH (n := t) hwt (by omega) (by omega) (by omega) (by omega) (fun z14 h14 => ⟨_, rfl, ?_⟩))
      refine xild 18 ⟨u42, _, rfl⟩ rfl rfl ?_
      refine xcmp_ne 21 ⟨u42, _, rfl⟩ rfl (fun c18 => ?_) (fun c18 => ?_)
      · refine xinc 27 (1) ⟨u42, _, rfl⟩ rfl rfl rfl (by decide) (by omega) (by omega) (fun z24 h24 => ?_)
        refine xgoto ⟨u42, _, rfl⟩ ?_
        rw [iv_f (p := ((cyL T a b ((cyS T a b V).getD t 0) : Nat) : Int) = wl.toInt) (by omega)] at k3
        exact ih (t + 1) _ _ (by omega) (by omega) (by omega)
      · refine xinc 24 (1) ⟨u42, _, rfl⟩ rfl rfl rfl (by decide) (by omega) (by omega) (fun z21 h21 => ?_)
        refine xinc 27 (1) ⟨u42, _, rfl⟩ rfl rfl rfl (by decide) (by omega) (by omega) (fun z24 h24 => ?_)
        refine xgoto ⟨u42, _, rfl⟩ ?_
        rw [iv_t (p := ((cyL T a b ((cyS T a b V).getD t 0) : Nat) : Int) = wl.toInt) (by omega)] at k3
        exact ih (t + 1) _ _ (by omega) (by omega) (by omega)
theorem k_42E {d a b V : Nat} {T : sT} {hp : amH} {R : xQ} {wl : Int32} (hT : sOk V T) (hH : bHk 84 bTT hp) (hC : cyP hp T a b V) (aV : a < V) (bV : b < V) (hab : ¬ a = b)
    (hR : ∀ z : Int32, z.toInt = ((cyN V T wl.toInt a b V : Nat) : Int) → R (.inl (some (.int z))) hp) : xK (d + 2) 42 [.ref 52, .int wl] hp R := by
  refine xin (M := am_m42) rfl rfl rfl ?_
  refine xcst 1 (0) ⟨u42, _, rfl⟩ rfl (by decide) (fun z0 h0 => ?_)
  refine xist 2 ⟨u42, _, rfl⟩ rfl rfl ?_
  refine xcst 3 (0) ⟨u42, _, rfl⟩ rfl (by decide) (fun z2 h2 => ?_)
  refine xist 4 ⟨u42, _, rfl⟩ rfl rfl ?_
  exact l42E hT hH hC aV bV hab hR (cyS T a b V).length 0 _ _ h2 (by omega) h0
end
/-! ##### q34 ##### -/
section
/-! ===== cyclesOf on both sides ===== -/
def cyNt (V : Nat) (T : sT) (L : Int) : Nat → Nat
  | 0 => 0
  | n + 1 => if n / 15 < n % 15 ∧ n % 15 < V then cyNt V T L n + cyN V T L (n / 15) (n % 15) V else cyNt V T L n
theorem cyNt_u {V : Nat} {T : sT} {L : Int} (n : Nat) : cyNt V T L (n + 1) = if n / 15 < n % 15 ∧ n % 15 < V then cyNt V T L n + cyN V T L (n / 15) (n % 15) V else cyNt V T L n := rfl
theorem cyT_no {V : Nat} {T : sT} {L : Int} (n : Nat) : ∀ k, (∀ j, n ≤ j → j < n + k → ¬ (j / 15 < j % 15 ∧ j % 15 < V)) → cyNt V T L (n + k) = cyNt V T L n
  | 0, _ => rfl
  | k + 1, h => by
    rw [← cyT_no n k (fun j h1 h2 => h j h1 (by omega))]
    show cyNt V T L (n + k + 1) = _
    rw [cyNt_u, if_neg (h (n + k) (by omega) (by omega))]
theorem cyT_s {V a b : Nat} {T : sT} {L : Int} (hb : b < 15) (h : a < b ∧ b < V) : cyNt V T L (15 * a + (b + 1)) = cyNt V T L (15 * a + b) + cyN V T L a b V := by
  show cyNt V T L (15 * a + b + 1) = _
  rw [cyNt_u, show (15 * a + b) / 15 = a by omega, show (15 * a + b) % 15 = b by omega, if_pos h]
theorem cyT_row {V a b : Nat} {T : sT} {L : Int} (hV : V ≤ 15) (hb : V = b) : cyNt V T L (15 * (a + 1)) = cyNt V T L (15 * a + b) := by
  rw [← hb, show 15 * (a + 1) = 15 * a + V + (15 - V) by omega]
  exact cyT_no _ _ (fun k k1 k2 => fun z => by omega)
theorem cyT_beg {V a : Nat} {T : sT} {L : Int} : cyNt V T L (15 * a + (a + 1)) = cyNt V T L (15 * a) :=
  cyT_no _ _ (fun k k1 k2 => fun z => by omega)
theorem cyT_end {V a : Nat} {T : sT} {L : Int} (hV : V ≤ 15) (ha : V = a) : cyNt V T L 225 = cyNt V T L (15 * a) := by
  rw [← ha, show 225 = 15 * V + (225 - 15 * V) by omega]
  exact cyT_no _ _ (fun k k1 k2 => fun z => by omega)
theorem cyT_le {V : Nat} {T : sT} {L : Int} (hV : V ≤ 15) : ∀ n, cyNt V T L n ≤ 15 * n
  | 0 => Nat.le_refl _
  | n + 1 => by
    have h1 := cyT_le (T := T) (L := L) hV n
    have h2 := cyN_le (V := V) (T := T) (L := L) (a := n / 15) (b := n % 15) V
    rw [cyNt_u]
    split <;> omega
theorem u145 : bUp 0 am_m145.1 = true := by decide +kernel
theorem l145i {d a V : Nat} {T : sT} {hp0 : amH} {R : xQ} {wa l : Int32} (hB0 : bdOk hp0 3 V T) (hL0 : lsN hp0 3 T 225) (ha : wa.toInt = (a : Int)) (aV : a < V)
    (hQ : ∀ (w wb : Int32) (hp : amH), bHk 84 bTT hp → bFx [52, 53, 54, 55] hp0 hp → w.toInt = ((cyNt V T l.toInt (15 * (a + 1)) : Nat) : Int) → xV (d + 5) am_m145 63 [some (.ref 0), some (.int l), some (.int w), some (.int wa), some (.int wb)] [] hp R) :
    ∀ (jj b : Nat) (w wb : Int32) (hp : amH), bHk 84 bTT hp → bFx [52, 53, 54, 55] hp0 hp → wb.toInt = (b : Int) → a < b → b + jj = V → w.toInt = ((cyNt V T l.toInt (15 * a + b) : Nat) : Int) → xV (d + 5) am_m145 20 [some (.ref 0), some (.int l), some (.int w), some (.int wa), some (.int wb)] [] hp R := by
  intro jj
  induction jj with
  | zero =>
    intro b w wb hp hH hF hb hab hj hw
    have hB : bdOk hp 3 V T := bdOk_fr hB0 (bFx_n hF (by simp)) (fun i => bFx_n hF (by simp)) (fun i => bFx_n hF (by simp))
    have hL : lsN hp 3 T 225 := lsN_fr hL0 (bFx_n hF (by simp)) (fun i => bFx_n hF (by simp)) (fun i => bFx_n hF (by simp))
    have h15 : V ≤ 15 := hB.2.1.2.1
    have b0 := hB.1
    have e := cyT_row (V := V) (a := a) (b := b) (T := T) (L := l.toInt) h15 (by omega)
    refine xild2 22 ⟨u145, _, rfl⟩ rfl rfl ?_
    refine xald 23 ⟨u145, _, rfl⟩ rfl rfl ?_
    refine xgetD 26 (3) hH ⟨u145, _, rfl⟩ rfl (by decide) (by decide) rfl rfl (by decide) ?_
    refine xgetC 29 hH ⟨u145, _, rfl⟩ rfl (by decide) (by decide) rfl rfl (by decide) (fun z26 h26 => ?_)
    refine xcmp_ge 32 ⟨u145, _, rfl⟩ rfl (fun c29 => ?_) (fun c29 => ?_)
    · exact hQ _ _ _ hH hF (by rw [e]; exact hw)
    · omega
  | succ jj ih =>
    intro b w wb hp hH hF hb hab hj hw
    have hB : bdOk hp 3 V T := bdOk_fr hB0 (bFx_n hF (by simp)) (fun i => bFx_n hF (by simp)) (fun i => bFx_n hF (by simp))
    have hL : lsN hp 3 T 225 := lsN_fr hL0 (bFx_n hF (by simp)) (fun i => bFx_n hF (by simp)) (fun i => bFx_n hF (by simp))
    have h15 : V ≤ 15 := hB.2.1.2.1
    have b0 := hB.1
    have s1 := cyT_s (V := V) (a := a) (b := b) (T := T) (L := l.toInt) (by omega) ⟨hab, by omega⟩
    have le1 := cyT_le (V := V) (T := T) (L := l.toInt) h15 (15 * a + b)
    have le2 := cyN_le (V := V) (T := T) (L := l.toInt) (a := a) (b := b) V
    refine xild2 22 ⟨u145, _, rfl⟩ rfl rfl ?_
    refine xald 23 ⟨u145, _, rfl⟩ rfl rfl ?_
    refine xgetD 26 (3) hH ⟨u145, _, rfl⟩ rfl (by decide) (by decide) rfl rfl (by decide) ?_
    refine xgetC 29 hH ⟨u145, _, rfl⟩ rfl (by decide) (by decide) rfl rfl (by decide) (fun z26 h26 => ?_)
    refine xcmp_ge 32 ⟨u145, _, rfl⟩ rfl (fun c29 => ?_) (fun c29 => ?_)
    · omega
    · refine xald 33 ⟨u145, _, rfl⟩ rfl rfl ?_
      refine xgetD 36 (52) hH ⟨u145, _, rfl⟩ rfl (by decide) (by decide) rfl rfl (by decide) ?_
      refine xald 37 ⟨u145, _, rfl⟩ rfl rfl ?_
      refine xgetD 40 (3) hH ⟨u145, _, rfl⟩ rfl (by decide) (by decide) rfl rfl (by decide) ?_
      refine xild 41 ⟨u145, _, rfl⟩ rfl rfl ?_
      refine xild2 43 ⟨u145, _, rfl⟩ rfl rfl ?_
      refine xcallC 46 (o := 52) [.ref 3, .int _, .int _] [] hH ⟨u145, _, rfl⟩ rfl rfl (by decide) rfl (by decide) rfl ⟨rfl, rfl, rfl, rfl⟩ rfl (k_gaC hH hB hL (a := a) (b := b) (by omega) (by omega) (by omega) (by omega) (by omega) (fun hp43 hH43 F43 C43 => ⟨_, rfl, ?_⟩))
      refine xild 47 ⟨u145, _, rfl⟩ rfl rfl ?_
      refine xald 48 ⟨u145, _, rfl⟩ rfl rfl ?_
      refine xgetD 51 (52) hH43 ⟨u145, _, rfl⟩ rfl (by decide) (by decide) rfl rfl (by decide) ?_
      refine xild 52 ⟨u145, _, rfl⟩ rfl rfl ?_
      refine xcallC 55 (o := 52) [.int _] [.int _] hH43 ⟨u145, _, rfl⟩ rfl rfl (by decide) rfl (by decide) rfl ⟨rfl, rfl, rfl, rfl⟩ rfl (k_42E hB.2.1 hH43 C43 (by omega) (by omega) (by omega) (fun z52 h52 => ⟨_, rfl, ?_⟩))
      refine xadd 56 _ ⟨u145, _, rfl⟩ rfl rfl (by omega) (by omega) (fun z55 h55 => ?_)
      refine xist 57 ⟨u145, _, rfl⟩ rfl rfl ?_
      refine xinc 60 (1) ⟨u145, _, rfl⟩ rfl rfl rfl (by decide) (by omega) (by omega) (fun z57 h57 => ?_)
      refine xgoto ⟨u145, _, rfl⟩ ?_
      exact ih (b + 1) _ _ hp43 hH43 (hF.trans F43) (by omega) (by omega) (by omega) (by rw [s1]; omega)
theorem l145o {d V : Nat} {T : sT} {hp0 : amH} {R : xQ} {l : Int32} (hB0 : bdOk hp0 3 V T) (hL0 : lsN hp0 3 T 225)
    (hR : ∀ (z : Int32) (hp : amH), bHk 84 bTT hp → bFx [52, 53, 54, 55] hp0 hp → z.toInt = ((cyNt V T l.toInt 225 : Nat) : Int) → R (.inl (some (.int z))) hp) :
    ∀ (jj a : Nat) (w wa : Int32) (v4 : Option Value) (hp : amH), bHk 84 bTT hp → bFx [52, 53, 54, 55] hp0 hp → wa.toInt = (a : Int) → a + jj = V → w.toInt = ((cyNt V T l.toInt (15 * a) : Nat) : Int) → xV (d + 5) am_m145 4 [some (.ref 0), some (.int l), some (.int w), some (.int wa), v4] [] hp R := by
  intro jj
  induction jj with
  | zero =>
    intro a w wa v4 hp hH hF ha hj hw
    have hB : bdOk hp 3 V T := bdOk_fr hB0 (bFx_n hF (by simp)) (fun i => bFx_n hF (by simp)) (fun i => bFx_n hF (by simp))
    have hL : lsN hp 3 T 225 := lsN_fr hL0 (bFx_n hF (by simp)) (fun i => bFx_n hF (by simp)) (fun i => bFx_n hF (by simp))
    have h15 : V ≤ 15 := hB.2.1.2.1
    have b0 := hB.1
    have e := cyT_end (V := V) (a := a) (T := T) (L := l.toInt) h15 (by omega)
    refine xild 5 ⟨u145, _, rfl⟩ rfl rfl ?_
    refine xald 6 ⟨u145, _, rfl⟩ rfl rfl ?_
    refine xgetD 9 (3) hH ⟨u145, _, rfl⟩ rfl (by decide) (by decide) rfl rfl (by decide) ?_
    refine xgetC 12 hH ⟨u145, _, rfl⟩ rfl (by decide) (by decide) rfl rfl (by decide) (fun z9 h9 => ?_)
    refine xcmp_ge 15 ⟨u145, _, rfl⟩ rfl (fun c12 => ?_) (fun c12 => ?_)
    · refine xild 70 ⟨u145, _, rfl⟩ rfl rfl ?_
      exact xret ⟨u145, _, rfl⟩ rfl (hR _ _ hH hF (by rw [e]; exact hw))
    · omega
  | succ jj ih =>
    intro a w wa v4 hp hH hF ha hj hw
    have hB : bdOk hp 3 V T := bdOk_fr hB0 (bFx_n hF (by simp)) (fun i => bFx_n hF (by simp)) (fun i => bFx_n hF (by simp))
    have hL : lsN hp 3 T 225 := lsN_fr hL0 (bFx_n hF (by simp)) (fun i => bFx_n hF (by simp)) (fun i => bFx_n hF (by simp))
    have h15 : V ≤ 15 := hB.2.1.2.1
    have b0 := hB.1
    have eb := cyT_beg (V := V) (a := a) (T := T) (L := l.toInt)
    refine xild 5 ⟨u145, _, rfl⟩ rfl rfl ?_
    refine xald 6 ⟨u145, _, rfl⟩ rfl rfl ?_
    refine xgetD 9 (3) hH ⟨u145, _, rfl⟩ rfl (by decide) (by decide) rfl rfl (by decide) ?_
    refine xgetC 12 hH ⟨u145, _, rfl⟩ rfl (by decide) (by decide) rfl rfl (by decide) (fun z9 h9 => ?_)
    refine xcmp_ge 15 ⟨u145, _, rfl⟩ rfl (fun c12 => ?_) (fun c12 => ?_)
    · omega
    · refine xild 16 ⟨u145, _, rfl⟩ rfl rfl ?_
      refine xcst 17 (1) ⟨u145, _, rfl⟩ rfl (by decide) (fun z16 h16 => ?_)
      refine xadd 18 _ ⟨u145, _, rfl⟩ rfl rfl (by omega) (by omega) (fun z17 h17 => ?_)
      refine xist2 20 ⟨u145, _, rfl⟩ rfl rfl ?_
      refine l145i hB0 hL0 ha (by omega) (fun x1 xb hp9 g0 g1 r1 => ?_) (V - (a + 1)) (a + 1) _ _ _ hH hF (by omega) (by omega) (by omega) (by rw [eb]; exact hw)
      refine xinc 66 (1) ⟨u145, _, rfl⟩ rfl rfl rfl (by decide) (by omega) (by omega) (fun z63 h63 => ?_)
      refine xgoto ⟨u145, _, rfl⟩ ?_
      exact ih (a + 1) _ _ _ _ g0 g1 (by omega) (by omega) r1
theorem k_145E {d V n : Nat} {h : Nat → sR} {sv : Option sR} {T : sT} {ty : Nat → Int} {hp : amH} {R : xQ} {a : Int32} (hH : bHk 84 bTT hp) (hS : clS hp (V, T, ty) n h sv)
    (hR : ∀ (z : Int32) hp1, bHk 84 bTT hp1 → cF hp hp1 → clS hp1 (V, T, ty) n h sv → z.toInt = ((cyNt V T a.toInt 225 : Nat) : Int) → R (.inl (some (.int z))) hp1) : xK (d + 6) 145 [.ref 0, .int a] hp R := by
  have hB : bdOk hp 3 V T := hS.1
  have b0 : rN hp 3 0 = (V : Int) := hB.1
  have hL : lsN hp 3 T 225 := hS.2.1
  have b1 : rN hp 3 1 = (((trL T 225).length : Nat) : Int) := hL.1
  have hT0 : sOk V T := hB.2.1
  have h15 : V ≤ 15 := hT0.2.1
  have l35 : (trL T 225).length ≤ 35 := trL_35 hT0 225
  have nq0 : rN hp 49 0 = ((nQ T : Nat) : Int) := hS.2.2.1.1
  refine xin (M := am_m145) rfl rfl rfl ?_
  refine xcst 1 (0) ⟨u145, _, rfl⟩ rfl (by decide) (fun z0 h0 => ?_)
  refine xist 2 ⟨u145, _, rfl⟩ rfl rfl ?_
  refine xcst 3 (0) ⟨u145, _, rfl⟩ rfl (by decide) (fun z2 h2 => ?_)
  refine xist 4 ⟨u145, _, rfl⟩ rfl rfl ?_
  refine xpad 1 ?_
  exact l145o hB hL (fun z hp1 g1 g2 g3 => hR z hp1 g1 (cF_x g2 (by simp)) (clS_8 hS (fun c k hc => g2 c k (by simp; omega))) g3) V 0 _ _ _ hp hH bFx.refl h2 (by omega) h0
theorem u302 : bUp 0 am_m302.1 = true := by decide +kernel
theorem l302x {d a b V w0 : Nat} {T : sT} {hp0 : amH} {R : xQ} {wa wb l : Int32} (hB0 : rdOk hp0 V T) (ha : wa.toInt = (a : Int)) (hb : wb.toInt = (b : Int)) (aV : a < V) (bV : b < V) (hw0 : w0 ≤ 4000)
    (hQ : ∀ (w wx : Int32) (hp : amH), bHk 84 bTT hp → bFr wWkE hp0 hp → w.toInt = ((w0 + cyN V T l.toInt a b V : Nat) : Int) → xV (d + 3) am_m302 77 [some (.ref 66), some (.int l), some (.int w), some (.int wa), some (.int wb), some (.int wx)] [] hp R) :
    ∀ (jj x : Nat) (w wx : Int32) (hp : amH), bHk 84 bTT hp → bFr wWkE hp0 hp → wx.toInt = (x : Int) → x + jj = V → w.toInt = ((w0 + cyN V T l.toInt a b x : Nat) : Int) → xV (d + 3) am_m302 34 [some (.ref 66), some (.int l), some (.int w), some (.int wa), some (.int wb), some (.int wx)] [] hp R := by
  intro jj
  induction jj with
  | zero =>
    intro x w wx hp hH hF hx hj hw
    have hB : rdOk hp V T := rdOk_fr hB0 (fun i => r_fr hF rfl)
    have h15 : V ≤ 15 := hB.2.1.2.1
    have b0 : rN hp 67 0 = (V : Int) := hB.1
    have ex : x = V := by omega
    rw [ex] at hw
    refine xild2 36 ⟨u302, _, rfl⟩ rfl rfl ?_
    refine xald 37 ⟨u302, _, rfl⟩ rfl rfl ?_
    refine xcall 40 [.ref 66] [.int _] hH ⟨u302, _, rfl⟩ rfl rfl rfl rfl rfl (k_points hH (fun z37 h37 => ⟨_, rfl, ?_⟩))
    refine xcmp_ge 43 ⟨u302, _, rfl⟩ rfl (fun c40 => ?_) (fun c40 => ?_)
    · exact hQ _ _ _ hH hF hw
    · omega
  | succ jj ih =>
    intro x w wx hp hH hF hx hj hw
    have hB : rdOk hp V T := rdOk_fr hB0 (fun i => r_fr hF rfl)
    have h15 : V ≤ 15 := hB.2.1.2.1
    have b0 : rN hp 67 0 = (V : Int) := hB.1
    have le2 := cyN_le (V := V) (T := T) (L := l.toInt) (a := a) (b := b) x
    have k3 : cyN V T l.toInt a b (x + 1) = cyN V T l.toInt a b x + iv (cyB T a b x = true ∧ ((cyL T a b x : Nat) : Int) = l.toInt) := rfl
    refine xild2 36 ⟨u302, _, rfl⟩ rfl rfl ?_
    refine xald 37 ⟨u302, _, rfl⟩ rfl rfl ?_
    refine xcall 40 [.ref 66] [.int _] hH ⟨u302, _, rfl⟩ rfl rfl rfl rfl rfl (k_points hH (fun z37 h37 => ⟨_, rfl, ?_⟩))
    refine xcmp_ge 43 ⟨u302, _, rfl⟩ rfl (fun c40 => ?_) (fun c40 => ?_)
    · omega
    · refine xild 44 ⟨u302, _, rfl⟩ rfl rfl ?_
      refine xald 45 ⟨u302, _, rfl⟩ rfl rfl ?_
      refine xild 46 ⟨u302, _, rfl⟩ rfl rfl ?_
      refine xild2 48 ⟨u302, _, rfl⟩ rfl rfl ?_
      refine xild2 50 ⟨u302, _, rfl⟩ rfl rfl ?_
      refine xcall 53 [.ref 66, .int _, .int _, .int _] [.int _] hH ⟨u302, _, rfl⟩ rfl rfl rfl rfl rfl (k_226E hH hB ha hb aV bV hx (by omega) (fun z50 hp50 hH50 F50 h50 m50 => ⟨_, rfl, ?_⟩))
      have b50 : (z50.toInt = 1 ∧ cyB T a b x = true) ∨ (z50.toInt = 0 ∧ ¬ cyB T a b x = true) := by
        by_cases q : cyB T a b x = true
        · left; rw [h50, if_pos q]; exact ⟨rfl, q⟩
        · right; rw [h50, if_neg q]; exact ⟨rfl, q⟩
      refine xif_eq 56 ⟨u302, _, rfl⟩ rfl (fun c53 => ?_) (fun c53 => ?_)
      · refine xcst 69 (0) ⟨u302, _, rfl⟩ rfl (by decide) (fun z68 h68 => ?_)
        refine xadd 70 _ ⟨u302, _, rfl⟩ rfl rfl (by omega) (by omega) (fun z69 h69 => ?_)
        refine xist 71 ⟨u302, _, rfl⟩ rfl rfl ?_
        refine xinc 74 (1) ⟨u302, _, rfl⟩ rfl rfl rfl (by decide) (by omega) (by omega) (fun z71 h71 => ?_)
        refine xgoto ⟨u302, _, rfl⟩ ?_
        have q1 : ¬ cyB T a b x = true := by
          rcases b50 with ⟨q, -⟩ | ⟨-, q⟩
          · omega
          · exact q
        rw [iv_f (p := cyB T a b x = true ∧ ((cyL T a b x : Nat) : Int) = l.toInt) (fun z => q1 z.1)] at k3
        exact ih (x + 1) _ _ hp50 hH50 (hF.trans F50) (by omega) (by omega) (by omega)
      · refine xald 57 ⟨u302, _, rfl⟩ rfl rfl ?_
        refine xgetI 60 hH50 ⟨u302, _, rfl⟩ rfl rfl (fun z57 h57 => ?_)
        refine xild 61 ⟨u302, _, rfl⟩ rfl rfl ?_
        refine xcmp_ne 64 ⟨u302, _, rfl⟩ rfl (fun c61 => ?_) (fun c61 => ?_)
        · refine xcst 69 (0) ⟨u302, _, rfl⟩ rfl (by decide) (fun z68 h68 => ?_)
          refine xadd 70 _ ⟨u302, _, rfl⟩ rfl rfl (by omega) (by omega) (fun z69 h69 => ?_)
          refine xist 71 ⟨u302, _, rfl⟩ rfl rfl ?_
          refine xinc 74 (1) ⟨u302, _, rfl⟩ rfl rfl rfl (by decide) (by omega) (by omega) (fun z71 h71 => ?_)
          refine xgoto ⟨u302, _, rfl⟩ ?_
          have q1 : cyB T a b x = true := by
            rcases b50 with ⟨-, q⟩ | ⟨q, -⟩
            · exact q
            · omega
          have q2 := (m50 q1).1
          rw [iv_f (p := cyB T a b x = true ∧ ((cyL T a b x : Nat) : Int) = l.toInt) (fun z => by have := z.2; omega)] at k3
          exact ih (x + 1) _ _ hp50 hH50 (hF.trans F50) (by omega) (by omega) (by omega)
        · refine xcst 65 (1) ⟨u302, _, rfl⟩ rfl (by decide) (fun z64 h64 => ?_)
          refine xgoto ⟨u302, _, rfl⟩ ?_
          refine xadd 70 _ ⟨u302, _, rfl⟩ rfl rfl (by omega) (by omega) (fun z69 h69 => ?_)
          refine xist 71 ⟨u302, _, rfl⟩ rfl rfl ?_
          refine xinc 74 (1) ⟨u302, _, rfl⟩ rfl rfl rfl (by decide) (by omega) (by omega) (fun z71 h71 => ?_)
          refine xgoto ⟨u302, _, rfl⟩ ?_
          have q1 : cyB T a b x = true := by
            rcases b50 with ⟨-, q⟩ | ⟨q, -⟩
            · exact q
            · omega
          have q2 := (m50 q1).1
          rw [iv_t (p := cyB T a b x = true ∧ ((cyL T a b x : Nat) : Int) = l.toInt) ⟨q1, by omega⟩] at k3
          exact ih (x + 1) _ _ hp50 hH50 (hF.trans F50) (by omega) (by omega) (by omega)
theorem l302i {d a V : Nat} {T : sT} {hp0 : amH} {R : xQ} {wa l : Int32} (hB0 : rdOk hp0 V T) (ha : wa.toInt = (a : Int)) (aV : a < V)
    (hQ : ∀ (w wb : Int32) (v5 : Option Value) (hp : amH), bHk 84 bTT hp → bFr wWkE hp0 hp → w.toInt = ((cyNt V T l.toInt (15 * (a + 1)) : Nat) : Int) → xV (d + 3) am_m302 83 [some (.ref 66), some (.int l), some (.int w), some (.int wa), some (.int wb), v5] [] hp R) :
    ∀ (jj b : Nat) (w wb : Int32) (v5 : Option Value) (hp : amH), bHk 84 bTT hp → bFr wWkE hp0 hp → wb.toInt = (b : Int) → a < b → b + jj = V → w.toInt = ((cyNt V T l.toInt (15 * a + b) : Nat) : Int) → xV (d + 3) am_m302 22 [some (.ref 66), some (.int l), some (.int w), some (.int wa), some (.int wb), v5] [] hp R := by
  intro jj
  induction jj with
  | zero =>
    intro b w wb v5 hp hH hF hb hab hj hw
    have hB : rdOk hp V T := rdOk_fr hB0 (fun i => r_fr hF rfl)
    have h15 : V ≤ 15 := hB.2.1.2.1
    have b0 : rN hp 67 0 = (V : Int) := hB.1
    have e := cyT_row (V := V) (a := a) (b := b) (T := T) (L := l.toInt) h15 (by omega)
    refine xild2 24 ⟨u302, _, rfl⟩ rfl rfl ?_
    refine xald 25 ⟨u302, _, rfl⟩ rfl rfl ?_
    refine xcall 28 [.ref 66] [.int _] hH ⟨u302, _, rfl⟩ rfl rfl rfl rfl rfl (k_points hH (fun z25 h25 => ⟨_, rfl, ?_⟩))
    refine xcmp_ge 31 ⟨u302, _, rfl⟩ rfl (fun c28 => ?_) (fun c28 => ?_)
    · exact hQ _ _ _ _ hH hF (by rw [e]; exact hw)
    · omega
  | succ jj ih =>
    intro b w wb v5 hp hH hF hb hab hj hw
    have hB : rdOk hp V T := rdOk_fr hB0 (fun i => r_fr hF rfl)
    have h15 : V ≤ 15 := hB.2.1.2.1
    have b0 : rN hp 67 0 = (V : Int) := hB.1
    have s1 := cyT_s (V := V) (a := a) (b := b) (T := T) (L := l.toInt) (by omega) ⟨hab, by omega⟩
    have le1 := cyT_le (V := V) (T := T) (L := l.toInt) h15 (15 * a + b)
    have le2 := cyN_le (V := V) (T := T) (L := l.toInt) (a := a) (b := b) V
    refine xild2 24 ⟨u302, _, rfl⟩ rfl rfl ?_
    refine xald 25 ⟨u302, _, rfl⟩ rfl rfl ?_
    refine xcall 28 [.ref 66] [.int _] hH ⟨u302, _, rfl⟩ rfl rfl rfl rfl rfl (k_points hH (fun z25 h25 => ⟨_, rfl, ?_⟩))
    refine xcmp_ge 31 ⟨u302, _, rfl⟩ rfl (fun c28 => ?_) (fun c28 => ?_)
    · omega
    · refine xcst 32 (0) ⟨u302, _, rfl⟩ rfl (by decide) (fun z31 h31 => ?_)
      refine xist2 34 ⟨u302, _, rfl⟩ rfl rfl ?_
      refine l302x (w0 := cyNt V T l.toInt (15 * a + b)) hB ha hb (by omega) (by omega) (by omega) (fun w1 wx hp1 g1 g2 r1 => ?_) V 0 _ _ hp hH (bFr.refl _ _) h31 (by omega) (by rw [hw]; rfl)
      refine xinc 80 (1) ⟨u302, _, rfl⟩ rfl rfl rfl (by decide) (by omega) (by omega) (fun z77 h77 => ?_)
      refine xgoto ⟨u302, _, rfl⟩ ?_
      exact ih (b + 1) _ _ _ hp1 g1 (hF.trans g2) (by omega) (by omega) (by omega) (by rw [s1]; exact r1)
theorem l302o {d V : Nat} {T : sT} {hp0 : amH} {R : xQ} {l : Int32} (hB0 : rdOk hp0 V T)
    (hR : ∀ (z : Int32) (hp : amH), bHk 84 bTT hp → bFr wWkE hp0 hp → z.toInt = ((cyNt V T l.toInt 225 : Nat) : Int) → R (.inl (some (.int z))) hp) :
    ∀ (jj a : Nat) (w wa : Int32) (v4 v5 : Option Value) (hp : amH), bHk 84 bTT hp → bFr wWkE hp0 hp → wa.toInt = (a : Int) → a + jj = V → w.toInt = ((cyNt V T l.toInt (15 * a) : Nat) : Int) → xV (d + 3) am_m302 9 [some (.ref 66), some (.int l), some (.int w), some (.int wa), v4, v5] [] hp R := by
  intro jj
  induction jj with
  | zero =>
    intro a w wa v4 v5 hp hH hF ha hj hw
    have hB : rdOk hp V T := rdOk_fr hB0 (fun i => r_fr hF rfl)
    have h15 : V ≤ 15 := hB.2.1.2.1
    have b0 : rN hp 67 0 = (V : Int) := hB.1
    have e := cyT_end (V := V) (a := a) (T := T) (L := l.toInt) h15 (by omega)
    refine xild 10 ⟨u302, _, rfl⟩ rfl rfl ?_
    refine xald 11 ⟨u302, _, rfl⟩ rfl rfl ?_
    refine xcall 14 [.ref 66] [.int _] hH ⟨u302, _, rfl⟩ rfl rfl rfl rfl rfl (k_points hH (fun z11 h11 => ⟨_, rfl, ?_⟩))
    refine xcmp_ge 17 ⟨u302, _, rfl⟩ rfl (fun c14 => ?_) (fun c14 => ?_)
    · refine xild 90 ⟨u302, _, rfl⟩ rfl rfl ?_
      exact xret ⟨u302, _, rfl⟩ rfl (hR _ _ hH hF (by rw [e]; exact hw))
    · omega
  | succ jj ih =>
    intro a w wa v4 v5 hp hH hF ha hj hw
    have hB : rdOk hp V T := rdOk_fr hB0 (fun i => r_fr hF rfl)
    have h15 : V ≤ 15 := hB.2.1.2.1
    have b0 : rN hp 67 0 = (V : Int) := hB.1
    have eb := cyT_beg (V := V) (a := a) (T := T) (L := l.toInt)
    refine xild 10 ⟨u302, _, rfl⟩ rfl rfl ?_
    refine xald 11 ⟨u302, _, rfl⟩ rfl rfl ?_
    refine xcall 14 [.ref 66] [.int _] hH ⟨u302, _, rfl⟩ rfl rfl rfl rfl rfl (k_points hH (fun z11 h11 => ⟨_, rfl, ?_⟩))
    refine xcmp_ge 17 ⟨u302, _, rfl⟩ rfl (fun c14 => ?_) (fun c14 => ?_)
    · omega
    · refine xild 18 ⟨u302, _, rfl⟩ rfl rfl ?_
      refine xcst 19 (1) ⟨u302, _, rfl⟩ rfl (by decide) (fun z18 h18 => ?_)
      refine xadd 20 _ ⟨u302, _, rfl⟩ rfl rfl (by omega) (by omega) (fun z19 h19 => ?_)
      refine xist2 22 ⟨u302, _, rfl⟩ rfl rfl ?_
      refine l302i hB0 ha (by omega) (fun x1 xb x5 hp9 g0 g1 r1 => ?_) (V - (a + 1)) (a + 1) _ _ _ _ hH hF (by omega) (by omega) (by omega) (by rw [eb]; exact hw)
      refine xinc 86 (1) ⟨u302, _, rfl⟩ rfl rfl rfl (by decide) (by omega) (by omega) (fun z83 h83 => ?_)
      refine xgoto ⟨u302, _, rfl⟩ ?_
      exact ih (a + 1) _ _ _ _ _ g0 g1 (by omega) (by omega) r1
theorem k_302E {d V n : Nat} {h : Nat → sR} {sv : Option sR} {T : sT} {ty : Nat → Int} {hp : amH} {R : xQ} {a : Int32} (hH : bHk 84 bTT hp) (hP : P0 hp) (hS : rfS hp (V, T, ty) n h sv)
    (hR : ∀ (z : Int32) hp1, bHk 84 bTT hp1 → P0 hp1 → bFr wM hp hp1 → rfS hp1 (V, T, ty) n h sv → z.toInt = ((cyNt V T a.toInt 225 : Nat) : Int) → R (.inl (some (.int z))) hp1) : xK (d + 6) 302 [.ref 66, .int a] hp R := by
  have hB : rdOk hp V T := rowOk_rd hS.1
  have b0 : rN hp 67 0 = (V : Int) := hB.1
  have hT0 : sOk V T := hB.2.1
  have h15 : V ≤ 15 := hT0.2.1
  have l35 : (trL T 225).length ≤ 35 := trL_35 hT0 225
  refine xin (M := am_m302) rfl rfl rfl ?_
  refine xald 1 ⟨u302, _, rfl⟩ rfl rfl ?_
  refine xcst 2 (0) ⟨u302, _, rfl⟩ rfl (by decide) (fun z1 h1 => ?_)
  refine xputI 5 hH ⟨u302, _, rfl⟩ rfl rfl ⟨rfl, rfl⟩ (by omega) (by omega) (fun hp2 hH2 U2 => ?_)
  have s2 := U2.1
  have S2 := rfS_W (W := [(66, 7)]) hS (rU_fr U2 rfl) (fun _ => rfl) rfl rfl (fun _ => rfl) (fun _ => rfl)
  have P2 := P0_W (W := [(66, 7)]) (by decide) (rU_fr U2 rfl) hP
  refine xcst 6 (0) ⟨u302, _, rfl⟩ rfl (by decide) (fun z5 h5 => ?_)
  refine xist 7 ⟨u302, _, rfl⟩ rfl rfl ?_
  refine xcst 8 (0) ⟨u302, _, rfl⟩ rfl (by decide) (fun z7 h7 => ?_)
  refine xist 9 ⟨u302, _, rfl⟩ rfl rfl ?_
  refine xpad 2 ?_
  exact l302o (show rdOk hp2 V T from rowOk_rd S2.1) (fun z hp1 g1 g2 g3 => hR z hp1 g1 (P0_W (W := wWkE) (by decide) g2 P2) ((rU_fr U2 (by decide)).trans (bFr_sub g2 (by decide))) (rfS_W S2 g2 (fun _ => rfl) rfl rfl (fun _ => rfl) (fun _ => rfl)) g3) V 0 _ _ _ _ hp2 hH2 (bFr.refl _ _) h7 (by omega) h5
end
