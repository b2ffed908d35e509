/-! ===== quad on both sides ===== -/
theorem lo_dec : ∀ r : Nat, ¬ r = 0 → ∃ j k, r = 2 ^ j * (2 * k + 1) := by
  intro r
  induction r using Nat.strongRecOn with
  | ind r ih =>
    intro h
    by_cases g : r % 2 = 1
    · exact ⟨0, r / 2, by omega⟩
    · obtain ⟨j, k, e⟩ := ih (r / 2) (by omega) (by omega)
      exact ⟨j + 1, k, by rw [Nat.pow_succ, Nat.mul_comm (2 ^ j) 2, Nat.mul_assoc, ← e]; omega⟩
theorem lo_j {r j k : Nat} (hr : r < 32768) (e : r = 2 ^ j * (2 * k + 1)) : j < 15 := by
  rcases Nat.lt_or_ge j 15 with h | h
  · exact h
  · exfalso
    have h1 : 2 ^ 15 ≤ 2 ^ j := Nat.pow_le_pow_right (by decide) h
    have h2 : 2 ^ j * 1 ≤ 2 ^ j * (2 * k + 1) := Nat.mul_le_mul_left _ (by omega)
    omega
theorem lo_t {j k i : Nat} : (2 ^ j * (2 * k + 1)).testBit i = (decide (i = j) || (decide (j < i) && k.testBit (i - j - 1))) := by
  have h := Nat.testBit_two_pow_mul_add (2 * k + 1) (b := 0) (i := j) (Nat.two_pow_pos j) i
  rw [Nat.add_zero] at h
  rw [h]
  by_cases g : i < j
  · rw [if_pos g, Nat.zero_testBit]
    simp; omega
  · rw [if_neg g]
    by_cases g2 : i = j
    · subst g2; rw [Nat.sub_self, Nat.testBit_zero]; simp
    · rw [show i - j = (i - j - 1) + 1 by omega, Nat.testBit_add_one, show (2 * k + 1) / 2 = k by omega]
      simp [g2]; omega
theorem lo_p {j k i : Nat} : (2 ^ j * (2 * k + 1) - 1).testBit i = (decide (i < j) || (decide (j < i) && k.testBit (i - j - 1))) := by
  have p := Nat.two_pow_pos j
  have e : 2 ^ j * (2 * k + 1) - 1 = 2 ^ j * (2 * k) + (2 ^ j - 1) := by rw [Nat.mul_add, Nat.mul_one]; omega
  have h := Nat.testBit_two_pow_mul_add (2 * k) (b := 2 ^ j - 1) (i := j) (by omega) i
  rw [e, h]
  by_cases g : i < j
  · rw [if_pos g, Nat.testBit_two_pow_sub_one]
    simp [g]
  · rw [if_neg g]
    by_cases g2 : i = j
    · subst g2; rw [Nat.sub_self, Nat.testBit_zero]; simp
    · rw [show i - j = (i - j - 1) + 1 by omega, Nat.testBit_add_one, show (2 * k) / 2 = k by omega]
      simp [g]; omega
theorem clr_t {j k i : Nat} : (2 ^ j * (2 * k + 1) &&& (2 ^ j * (2 * k + 1) - 1)).testBit i = ((2 ^ j * (2 * k + 1)).testBit i && !decide (i = j)) := by
  rw [Nat.testBit_and, lo_t, lo_p]
  by_cases g : i = j
  · subst g; simp
  · by_cases g2 : j < i
    · have : ¬ i < j := by omega
      simp [g, g2, this]
    · have : i < j := by omega
      simp [g, g2, this]
theorem low_jd : ∀ j : Fin 15, 2 ^ j.1 * (2 * 2 ^ (31 - j.1)) = 4294967296 := by decide
theorem low_j {r j k : Nat} (hr : r < 32768) (e : r = 2 ^ j * (2 * k + 1)) : lowN r = 2 ^ j := by
  have hj := lo_j hr e
  have d := low_jd ⟨j, hj⟩
  have d : 2 ^ j * (2 * 2 ^ (31 - j)) = 4294967296 := d
  have kl : k < 2 ^ (31 - j) := by
    refine Nat.lt_of_mul_lt_mul_left (a := 2 ^ j * 2) ?_
    rw [Nat.mul_assoc, Nat.mul_assoc, d]
    have : 2 ^ j * (2 * k) ≤ 2 ^ j * (2 * k + 1) := Nat.mul_le_mul_left _ (by omega)
    omega
  have e2 : 4294967296 - r = 2 ^ j * (2 * (2 ^ (31 - j) - (k + 1)) + 1) := by
    have s : 2 ^ j * (2 * (2 ^ (31 - j) - (k + 1)) + 1) + 2 ^ j * (2 * k + 1) = 4294967296 := by
      rw [← Nat.mul_add, show 2 * (2 ^ (31 - j) - (k + 1)) + 1 + (2 * k + 1) = 2 * 2 ^ (31 - j) by omega, d]
    omega
  unfold lowN
  rw [e2, e]
  apply Nat.eq_of_testBit_eq
  intro i
  rw [Nat.testBit_and, lo_t, lo_t, p2_test]
  by_cases g : i = j
  · simp [g]
  · by_cases g2 : j < i
    · rw [Nat.testBit_two_pow_sub_succ kl]
      simp [g]
      intro _ z _ z2
      rw [z] at z2
      cases z2
    · simp [g, g2]
theorem bc_ones : ∀ j : Fin 15, bcN (2 ^ j.1 - 1) = (j.1 : Int) := by decide +kernel
theorem mem_j {m i j k : Nat} (hm : m < 32768) (e : clrN i m = 2 ^ j * (2 * k + 1)) : memN m i = (j : Int) := by
  have hc := clr_lt hm i
  have hj := lo_j hc e
  have hne : ¬ clrN i m = 0 := by
    have := Nat.two_pow_pos j
    have h2 : 2 ^ j * 1 ≤ 2 ^ j * (2 * k + 1) := Nat.mul_le_mul_left _ (by omega)
    omega
  unfold memN
  rw [if_neg hne, low_j hc e]
  exact bc_ones ⟨j, hj⟩
theorem nt_d : ∀ j : Fin 15, (if 0 < Int32.ofNat (2 ^ j.1 - 1) then ntE (nt2 (nt4 (nt8 (nt16 (Int32.ofNat (2 ^ j.1 - 1), 1))))) else Int32.ofNat (2 ^ j.1 - 1) &&& 32).toInt = (j.1 : Int) := by decide +kernel
theorem nt_j {x : Int32} {r j k : Nat} (hx : x.toInt = (r : Int)) (hr : r < 32768) (e : r = 2 ^ j * (2 * k + 1)) : (ntF x).toInt = (j : Int) := by
  have hj := lo_j hr e
  have p := pN_t hx
  have p2 := Nat.two_pow_pos j
  have r1 : 1 ≤ r := by
    have h2 : 2 ^ j * 1 ≤ 2 ^ j * (2 * k + 1) := Nat.mul_le_mul_left _ (by omega)
    omega
  have c1 : pN (1 : Int32) = 1 := by decide
  have e1 : pN (x - 1) = r - 1 := by rw [pN_sub (by omega), p, c1]
  have e0 : pN (x ^^^ (-1)) = r ^^^ (2 ^ 32 - 1) := by
    have c : pN (-1 : Int32) = 2 ^ 32 - 1 := by decide
    rw [← p, ← c]
    unfold pN
    rw [Int32.toBitVec_xor, BitVec.toNat_xor]
  have en : pN (nt0 x) = 2 ^ j - 1 := by
    unfold nt0
    rw [pN_and, e0, e1, e]
    apply Nat.eq_of_testBit_eq
    intro i
    rw [Nat.testBit_and, Nat.testBit_xor, Nat.testBit_two_pow_sub_one, Nat.testBit_two_pow_sub_one, lo_t, lo_p]
    by_cases g : i < j
    · have g1 : ¬ i = j := by omega
      have g2 : ¬ j < i := by omega
      have g3 : i < 32 := by omega
      simp [g, g1, g2, g3]
    · by_cases g1 : i = j
      · subst g1; simp
      · have g2 : j < i := by omega
        by_cases g3 : i < 32
        · simp [g, g1, g2, g3]
        · have kb : k.testBit (i - j - 1) = false := by
            have hb : r.testBit i = false := Nat.testBit_lt_two_pow (Nat.lt_of_lt_of_le hr (Nat.le_trans (by decide : 32768 ≤ 2 ^ 32) (Nat.pow_le_pow_right (by decide) (by omega))))
            rw [e, lo_t] at hb
            simpa [g1, g2] using hb
          simp [g, g1, g2, g3, kb]
  have l : 2 ^ j - 1 < 32768 := by
    have : 2 ^ j < 2 ^ 15 := Nat.pow_lt_pow_right (by decide) hj
    omega
  have ex : nt0 x = Int32.ofNat (2 ^ j - 1) := Int32.toInt_inj.mp (by rw [t_pN (by omega), en, Int32.toInt_ofNat_of_lt (by omega)])
  unfold ntF
  rw [ex]
  exact nt_d ⟨j, hj⟩
theorem pq_bits (m : Nat) : pq m = sm (fun j => iv (m.testBit j = true)) 15 := pq_iv (P := fun j => m.testBit j = true) (fun j _ => Iff.rfl)
theorem pq_clr {r : Nat} (h : ¬ r = 0) (hr : r < 32768) : pq (r &&& (r - 1)) + 1 = pq r := by
  obtain ⟨j, k, e⟩ := lo_dec r h
  have hj := lo_j hr e
  rw [pq_bits, pq_bits]
  have s1 := sm_eq1 (k := j) (n := 15) hj
  have e2 : sm (fun i => iv (r.testBit i = true)) 15 = sm (fun i => iv ((r &&& (r - 1)).testBit i = true)) 15 + sm (fun i => iv (i = j)) 15 := by
    rw [← sm_add]
    refine sm_ext _ (fun i _ => ?_)
    have c := clr_t (j := j) (k := k) (i := i)
    rw [← e] at c
    by_cases g : i = j
    · have hb : r.testBit i = true := by rw [e, lo_t]; simp [g]
      have hc : ¬ (r &&& (r - 1)).testBit i = true := by rw [c]; simp [g]
      rw [iv_t hb, iv_f hc, iv_t g]
    · have hc : (r &&& (r - 1)).testBit i = r.testBit i := by rw [c]; simp [g]
      rw [hc, iv_f g, Nat.add_zero]
  omega
theorem clr_pq {m : Nat} (hm : m < 32768) : ∀ i, i ≤ pq m → pq (clrN i m) + i = pq m
  | 0, _ => rfl
  | i + 1, h => by
    have h1 := clr_pq hm i (by omega)
    have hne : ¬ clrN i m = 0 := fun z => by
      rw [z] at h1
      have : pq 0 = 0 := by decide
      omega
    have h2 := pq_clr hne (clr_lt hm i)
    show pq (clrN i m &&& (clrN i m - 1)) + (i + 1) = pq m
    omega
theorem clr_ne {m i : Nat} (hm : m < 32768) (h : i < pq m) : ¬ clrN i m = 0 := fun z => by
  have h1 := clr_pq hm i (by omega)
  rw [z] at h1
  have : pq 0 = 0 := by decide
  omega
theorem u287 : bUp 0 am_m287.1 = true := by decide +kernel
theorem l287E {d m i : Nat} {hp : amH} {R : xQ} {a b : Int32} (hH : bHk 84 bTT hp) (hm : m < 32768) (hb : b.toInt = (i : Int)) (hi : i < pq m)
    (hR : ∀ z : Int32, z.toInt = memN m i → R (.inl (some (.int z))) hp) :
    ∀ (jj t : Nat) (w wt : Int32), wt.toInt = (t : Int) → t + jj = i → w.toInt = ((clrN t m : Nat) : Int) → xV (d + 1) am_m287 5 [some (.ref 66), some (.int a), some (.int b), some (.int w), some (.int wt)] [] hp R := by
  intro jj
  induction jj with
  | zero =>
    intro t w wt hwt hj hw
    have et : t = i := by omega
    subst et
    have hc := clr_lt hm t
    obtain ⟨j, k, e⟩ := lo_dec _ (clr_ne hm hi)
    refine xild2 7 ⟨u287, _, rfl⟩ rfl rfl ?_
    refine xild 8 ⟨u287, _, rfl⟩ rfl rfl ?_
    refine xcmp_ge 11 ⟨u287, _, rfl⟩ rfl (fun c8 => ?_) (fun c8 => ?_)
    · refine xild 24 ⟨u287, _, rfl⟩ rfl rfl ?_
      refine xcallS 27 [.int _] [] hH ⟨u287, _, rfl⟩ rfl rfl rfl rfl rfl (k_ntR (fun z24 h24 => ⟨_, rfl, ?_⟩))
      exact xret ⟨u287, _, rfl⟩ rfl (hR _ (by rw [h24, nt_j hw hc e, mem_j hm e]))
    · omega
  | succ jj ih =>
    intro t w wt hwt hj hw
    have bb := aMax b
    have hc := clr_lt hm t
    refine xild2 7 ⟨u287, _, rfl⟩ rfl rfl ?_
    refine xild 8 ⟨u287, _, rfl⟩ rfl rfl ?_
    refine xcmp_ge 11 ⟨u287, _, rfl⟩ rfl (fun c8 => ?_) (fun c8 => ?_)
    · omega
    · refine xild 12 ⟨u287, _, rfl⟩ rfl rfl ?_
      refine xild 13 ⟨u287, _, rfl⟩ rfl rfl ?_
      refine xcst 14 (1) ⟨u287, _, rfl⟩ rfl (by decide) (fun z13 h13 => ?_)
      refine xsub 15 _ ⟨u287, _, rfl⟩ rfl rfl (by omega) (by omega) (fun z14 h14 => ?_)
      refine xand 16 ⟨u287, _, rfl⟩ rfl ?_
      refine xist 17 ⟨u287, _, rfl⟩ rfl rfl ?_
      refine xinc 20 (1) ⟨u287, _, rfl⟩ rfl rfl rfl (by decide) (by omega) (by omega) (fun z17 h17 => ?_)
      refine xgoto ⟨u287, _, rfl⟩ ?_
      exact ih (t + 1) _ _ (by omega) (by omega) (i_clr (o := 0) hw hc h14)
theorem k_287E {d m i : Nat} {hp : amH} {R : xQ} {a b : Int32} (hH : bHk 84 bTT hp) (ha : a.toInt = (m : Int)) (hm : m < 32768) (hb : b.toInt = (i : Int)) (hi : i < pq m)
    (hR : ∀ z : Int32, z.toInt = memN m i → R (.inl (some (.int z))) hp) : xK (d + 1) 287 [.ref 66, .int a, .int b] hp R := by
  refine xin (M := am_m287) rfl rfl rfl ?_
  refine xild 1 ⟨u287, _, rfl⟩ rfl rfl ?_
  refine xist 2 ⟨u287, _, rfl⟩ rfl rfl ?_
  refine xcst 3 (0) ⟨u287, _, rfl⟩ rfl (by decide) (fun z2 h2 => ?_)
  refine xist2 5 ⟨u287, _, rfl⟩ rfl rfl ?_
  exact l287E hH hm hb hi hR i 0 _ _ h2 (by omega) ha
theorem sum6 : ∀ p a b c d e u : Nat, sxP p a b c d e → iv (u = p ∨ u = a ∨ u = b ∨ u = c ∨ u = d ∨ u = e) = iv (u = p) + (iv (u = a) + (iv (u = b) + (iv (u = c) + (iv (u = d) + iv (u = e))))) := by
  intro p a b c d e u h
  obtain ⟨⟨k1, k2, k3, k4, k5⟩, ⟨k6, k7, k8, k9⟩, ⟨k10, k11, k12⟩, ⟨k13, k14⟩, k15⟩ := h
  rw [iv_or (fun z => by rcases z with ⟨z, y⟩; rw [z] at y; rcases y with y | y | y | y | y <;> contradiction), iv_or (fun z => by rcases z with ⟨z, y⟩; rw [z] at y; rcases y with y | y | y | y <;> contradiction), iv_or (fun z => by rcases z with ⟨z, y⟩; rw [z] at y; rcases y with y | y | y <;> contradiction), iv_or (fun z => by rcases z with ⟨z, y⟩; rw [z] at y; rcases y with y | y <;> contradiction), iv_or (fun z => by rcases z with ⟨z, y⟩; rw [z] at y; contradiction)]
theorem qU_6 {V : Nat} {T : sT} (hT : sOk V T) {n : Nat} (hn : n < 42875) (h : qdB T n = true) : pq (qU T n) = 6 := by
  obtain ⟨p, a, b, c, d, e, hV, h6, eG, eC, hU, -⟩ := qd_all hT hn h
  have h15 := hT.2.1
  rw [pq_iv (P := fun u => u = p ∨ u = a ∨ u = b ∨ u = c ∨ u = d ∨ u = e) (fun j _ => hU j), sm_ext (g := fun u => iv (u = p) + (iv (u = a) + (iv (u = b) + (iv (u = c) + (iv (u = d) + iv (u = e)))))) _ (fun u _ => sum6 p a b c d e u h6), sm_add, sm_add, sm_add, sm_add, sm_add, sm_eq1 (by omega), sm_eq1 (by omega), sm_eq1 (by omega), sm_eq1 (by omega), sm_eq1 (by omega), sm_eq1 (by omega)]
def gQu (T : sT) (a b : Int) : Int := if gTri (nQ T) a = 0 then (if 0 ≤ b ∧ b ≤ 9 then 0 else 2) else 1
theorem gQu_0 {T : sT} {a b : Int} : gQu T a b = 0 ↔ gTri (nQ T) a = 0 ∧ 0 ≤ b ∧ b ≤ 9 := by
  unfold gQu
  split
  · next g => split <;> simp_all
  · next g => simp [g]
theorem gQu_1 {T : sT} {a b : Int} (h : ¬ gTri (nQ T) a = 0) : gQu T a b = 1 := by unfold gQu; rw [if_neg h]
theorem gQu_2 {T : sT} {a b : Int} (h : gTri (nQ T) a = 0) (h2 : ¬ (0 ≤ b ∧ b ≤ 9)) : gQu T a b = 2 := by unfold gQu; rw [if_pos h, if_neg h2]
def quV (T : sT) (q w : Nat) : Int := if w < 4 then (((qL T (cQ2 T q)).getD w 0 : Nat) : Int) else memN (qU T (cQ2 T q)) (w - 4)
theorem u132 : bUp 0 am_m132.1 = true := by decide +kernel
theorem k_132E {d V n : Nat} {h : Nat → sR} {sv : Option sR} {T : sT} {ty : Nat → Int} {hp : amH} {R : xQ} {a b : Int32} (hH : bHk 84 bTT hp) (hS : clS hp (V, T, ty) n h sv)
    (hT : ∀ E hp1, bHk 84 bTT hp1 → cF hp hp1 → clS hp1 (V, T, ty) n h sv → ¬ gQu T a.toInt b.toInt = 0 → ((gQu T a.toInt b.toInt = 1 ∧ E = 1) ∨ (gQu T a.toInt b.toInt = 2 ∧ E = 0)) → R (.inr E) hp1)
    (hR : ∀ (z : Int32) hp1, bHk 84 bTT hp1 → cF hp hp1 → gQu T a.toInt b.toInt = 0 → clS hp1 (V, T, ty) n h sv → z.toInt = quV T a.toInt.toNat b.toInt.toNat → R (.inl (some (.int z))) hp1) : xK (d + 5) 132 [.ref 0, .int a, .int b] hp R := by
  have hB : bdOk hp 3 V T := hS.1
  have b0 : rN hp 3 0 = (V : Int) := hB.1
  have hL : lsN hp 3 T 225 := hS.2.1
  have b1 : rN hp 3 1 = (((trL T 225).length : Nat) : Int) := hL.1
  have hT0 : sOk V T := hB.2.1
  have h15 : V ≤ 15 := hT0.2.1
  have l35 : (trL T 225).length ≤ 35 := trL_35 hT0 225
  refine xin (M := am_m132) rfl rfl rfl ?_
  refine xald 1 ⟨u132, _, rfl⟩ rfl rfl ?_
  refine xild 2 ⟨u132, _, rfl⟩ rfl rfl ?_
  refine xcallT 5 (o := 0) [.int _] [] hH ⟨u132, _, rfl⟩ rfl rfl (by decide) rfl (by decide) rfl ⟨rfl, rfl, rfl, rfl⟩ rfl (k_rqQ hH hS.2.2.1.1 (fun g2 => Or.inl ⟨_, rfl, ?_⟩) (fun g2 => Or.inr ⟨_, rfl, rfl, hT _ hp hH cF.refl hS (by rw [gQu_1 (by omega)]; decide) (Or.inl ⟨gQu_1 (by omega), rfl⟩)⟩))
  have k2 := gTri_0.mp g2
  obtain ⟨q1, q2, q3, q4, q5, q6, q7⟩ := qd_at hT0 hS.2.2.1 (q := a.toInt.toNat) (show a.toInt.toNat < nQ T by omega) rfl
  refine xild 6 ⟨u132, _, rfl⟩ rfl rfl ?_
  refine xif_lt 9 ⟨u132, _, rfl⟩ rfl (fun c6 => ?_) (fun c6 => ?_)
  · exact xthr ⟨u132, _, rfl⟩ (by decide) rfl (by decide) (hT _ hp hH cF.refl hS (by rw [gQu_2 g2 (by omega)]; decide) (Or.inr ⟨gQu_2 g2 (by omega), rfl⟩))
  · refine xild 10 ⟨u132, _, rfl⟩ rfl rfl ?_
    refine xbip 12 (9) ⟨u132, _, rfl⟩ rfl (by decide) (fun z10 h10 => ?_)
    refine xcmp_le 15 ⟨u132, _, rfl⟩ rfl (fun c12 => ?_) (fun c12 => ?_)
    · refine xild 26 ⟨u132, _, rfl⟩ rfl rfl ?_
      refine xcst 27 (4) ⟨u132, _, rfl⟩ rfl (by decide) (fun z26 h26 => ?_)
      refine xcmp_ge 30 ⟨u132, _, rfl⟩ rfl (fun c27 => ?_) (fun c27 => ?_)
      · refine xald 43 ⟨u132, _, rfl⟩ rfl rfl ?_
        refine xgetD 46 (49) hH ⟨u132, _, rfl⟩ rfl (by decide) (by decide) rfl rfl (by decide) ?_
        refine xild 47 ⟨u132, _, rfl⟩ rfl rfl ?_
        refine xcallC 50 (o := 49) [.int _] [] hH ⟨u132, _, rfl⟩ rfl rfl (by decide) rfl (by decide) rfl ⟨rfl, rfl, rfl, rfl⟩ rfl (k_ptQ hH (q := a.toInt.toNat) (by omega) q3 (fun z47 h47 => ⟨_, rfl, ?_⟩))
        have h47 : z47.toInt = ((qU T (cQ2 T a.toInt.toNat) : Nat) : Int) := h47.trans q5
        refine xild 51 ⟨u132, _, rfl⟩ rfl rfl ?_
        refine xcst 52 (4) ⟨u132, _, rfl⟩ rfl (by decide) (fun z51 h51 => ?_)
        refine xsub 53 _ ⟨u132, _, rfl⟩ rfl rfl (by omega) (by omega) (fun z52 h52 => ?_)
        refine xcallS 56 [.int _, .int _] [] hH ⟨u132, _, rfl⟩ rfl rfl rfl rfl rfl (k_mem hH h47 (qU_lt hT0 (show a.toInt.toNat < nQ T by omega)) (i := b.toInt.toNat - 4) (by omega) (fun z53 h53 => ⟨_, rfl, ?_⟩))
        exact xret ⟨u132, _, rfl⟩ rfl (hR _ _ hH cF.refl (gQu_0.mpr ⟨g2, by omega, by omega⟩) hS (by unfold quV; rw [if_neg (by omega)]; exact h53))
      · refine xald 31 ⟨u132, _, rfl⟩ rfl rfl ?_
        refine xgetD 34 (49) hH ⟨u132, _, rfl⟩ rfl (by decide) (by decide) rfl rfl (by decide) ?_
        refine xild 35 ⟨u132, _, rfl⟩ rfl rfl ?_
        refine xild 36 ⟨u132, _, rfl⟩ rfl rfl ?_
        refine xcallC 39 (o := 49) [.int _, .int _] [] hH ⟨u132, _, rfl⟩ rfl rfl (by decide) rfl (by decide) rfl ⟨rfl, rfl, rfl, rfl⟩ rfl (k_trQ hH (q := a.toInt.toNat) (i := b.toInt.toNat) (by omega) q3 q4 (by omega) (by show b.toInt.toNat < 4; omega) q6 (by show 4 ≤ 35; decide) (fun z36 h36 => ⟨_, rfl, ?_⟩))
        refine xgoto ⟨u132, _, rfl⟩ ?_
        exact xret ⟨u132, _, rfl⟩ rfl (hR _ _ hH cF.refl (gQu_0.mpr ⟨g2, by omega, by omega⟩) hS (by unfold quV; rw [if_pos (by omega)]; exact h36))
    · exact xthr ⟨u132, _, rfl⟩ (by decide) rfl (by decide) (hT _ hp hH cF.refl hS (by rw [gQu_2 g2 (by omega)]; decide) (Or.inr ⟨gQu_2 g2 (by omega), rfl⟩))
theorem u288 : bUp 0 am_m288.1 = true := by decide +kernel
theorem k_288E {d V n : Nat} {h : Nat → sR} {sv : Option sR} {T : sT} {ty : Nat → Int} {hp : amH} {R : xQ} {a b : Int32} (hH : bHk 84 bTT hp) (hP : P0 hp) (hS : rfS hp (V, T, ty) n h sv)
    (hR : ∀ (z : Int32) hp1, bHk 84 bTT hp1 → P0 hp1 → bFr wM hp hp1 → rN hp1 66 7 = gQu T a.toInt b.toInt → ((¬ gQu T a.toInt b.toInt = 0 ∧ rfS hp1 (V, T, ty) n h sv) ∨ (gQu T a.toInt b.toInt = 0 ∧ rfS hp1 (V, T, ty) n h sv ∧ z.toInt = quV T a.toInt.toNat b.toInt.toNat)) → R (.inl (some (.int z))) hp1) : xK (d + 6) 288 [.ref 66, .int a, .int b] hp R := by
  have hB : rdOk hp V T := rowOk_rd hS.1
  have b0 : rN hp 67 0 = (V : Int) := hB.1
  have hT0 : sOk V T := hB.2.1
  have h15 : V ≤ 15 := hT0.2.1
  have l35 : (trL T 225).length ≤ 35 := trL_35 hT0 225
  refine xin (M := am_m288) rfl rfl rfl ?_
  refine xald 1 ⟨u288, _, rfl⟩ rfl rfl ?_
  refine xild 2 ⟨u288, _, rfl⟩ rfl rfl ?_
  refine xcall 5 [.ref 66, .int _] [] hH ⟨u288, _, rfl⟩ rfl rfl rfl rfl rfl (k_gqd hH hB (fun z2 hp2 hH2 F2 B2 L2 Q2 t2 o2 => ⟨_, rfl, ?_⟩))
  have S2 := rfS_W hS F2 (fun _ => rfl) rfl rfl (fun _ => rfl) (fun _ => rfl)
  have P2 : P0 hp2 := P0_W (W := (66, 7) :: wLQE) (by decide) F2 hP
  refine xif_ne 8 ⟨u288, _, rfl⟩ rfl (fun c5 => ?_) (fun c5 => ?_)
  · refine xcst 32 (0) ⟨u288, _, rfl⟩ rfl (by decide) (fun z31 h31 => ?_)
    exact xret ⟨u288, _, rfl⟩ rfl (hR _ hp2 hH2 P2 (bFr_sub F2 (by decide)) (by rw [t2, gQu_1 (by omega)]; omega) (Or.inl ⟨by rw [gQu_1 (by omega)]; decide, S2⟩))
  · have g2 : gTri (nQ T) a.toInt = 0 := by omega
    have k2 := gTri_0.mp g2
    refine xald 9 ⟨u288, _, rfl⟩ rfl rfl ?_
    refine xild 10 ⟨u288, _, rfl⟩ rfl rfl ?_
    refine xcst 11 (0) ⟨u288, _, rfl⟩ rfl (by decide) (fun z10 h10 => ?_)
    refine xbip 13 (9) ⟨u288, _, rfl⟩ rfl (by decide) (fun z11 h11 => ?_)
    refine xcallS 16 [.int _, .int _, .int _] [.ref 66] hH2 ⟨u288, _, rfl⟩ rfl rfl rfl rfl rfl (k_inr (fun z13 h13 => ⟨_, rfl, ?_⟩))
    refine xif_ne 19 ⟨u288, _, rfl⟩ rfl (fun c16 => ?_) (fun c16 => ?_)
    · refine xcst 24 (0) ⟨u288, _, rfl⟩ rfl (by decide) (fun z23 h23 => ?_)
      refine xcst 25 (2) ⟨u288, _, rfl⟩ rfl (by decide) (fun z24 h24 => ?_)
      refine xcall 28 [.ref 66, .int _, .int _] [] hH2 ⟨u288, _, rfl⟩ rfl rfl rfl rfl rfl (k_failsE hH2 (by omega) (fun hp25 hH25 V25 => ⟨_, rfl, ?_⟩))
      refine xif_eq 31 ⟨u288, _, rfl⟩ rfl (fun c28 => ?_) (fun c28 => ?_)
      · have hpe : hp2 = hp25 := by
          rcases V25 with ⟨q1, e⟩ | ⟨q1, -⟩
          · exact e.symm
          · omega
        subst hpe
        have g0 : gQu T a.toInt b.toInt = 0 := gQu_0.mpr ⟨g2, by omega, by omega⟩
        have hq0 : a.toInt.toNat < nQ T := by omega
        obtain ⟨f1, f2, -⟩ := fL_get 42875 a.toInt.toNat (show a.toInt.toNat < (fL (qdB T) 42875).length by omega)
        have qr := (rq_get hT0 Q2 hq0).1
        have l105 : nQ T ≤ 105 := q105 hT0
        refine xild 34 ⟨u288, _, rfl⟩ rfl rfl ?_
        refine xcst 35 (4) ⟨u288, _, rfl⟩ rfl (by decide) (fun z34 h34 => ?_)
        refine xcmp_ge 38 ⟨u288, _, rfl⟩ rfl (fun c35 => ?_) (fun c35 => ?_)
        · refine xald 52 ⟨u288, _, rfl⟩ rfl rfl ?_
          refine xald 53 ⟨u288, _, rfl⟩ rfl rfl ?_
          refine xild 54 ⟨u288, _, rfl⟩ rfl rfl ?_
          refine xcall 57 [.ref 66, .int _] [.ref 66] hH25 ⟨u288, _, rfl⟩ rfl rfl rfl rfl rfl (k_qpE hH25 hT0 L2 Q2 (q := a.toInt.toNat) hq0 (by omega) (fun z54 h54 => ⟨_, rfl, ?_⟩))
          refine xild 58 ⟨u288, _, rfl⟩ rfl rfl ?_
          refine xcst 59 (4) ⟨u288, _, rfl⟩ rfl (by decide) (fun z58 h58 => ?_)
          refine xsub 60 _ ⟨u288, _, rfl⟩ rfl rfl (by omega) (by omega) (fun z59 h59 => ?_)
          refine xcall 63 [.ref 66, .int _, .int _] [] hH25 ⟨u288, _, rfl⟩ rfl rfl rfl rfl rfl (k_287E hH25 h54 (qU_lt hT0 hq0) (i := b.toInt.toNat - 4) (by omega) (by rw [qU_6 hT0 f2 f1]; omega) (fun z60 h60 => ⟨_, rfl, ?_⟩))
          exact xret ⟨u288, _, rfl⟩ rfl (hR _ hp2 hH25 P2 (bFr_sub F2 (by decide)) (by rw [t2, g0]; exact g2) (Or.inr ⟨g0, S2, by unfold quV; rw [if_neg (by omega)]; exact h60⟩))
        · refine xald 39 ⟨u288, _, rfl⟩ rfl rfl ?_
          refine xgetR 42 76 hH25 ⟨u288, _, rfl⟩ rfl rfl ?_
          refine xcst 43 (4) ⟨u288, _, rfl⟩ rfl (by decide) (fun z42 h42 => ?_)
          refine xild 44 ⟨u288, _, rfl⟩ rfl rfl ?_
          refine xmul 45 (4 * Int32.toInt a) ⟨u288, _, rfl⟩ rfl (by rw [h42]) (by omega) (by omega) (fun z44 h44 => ?_)
          refine xild 46 ⟨u288, _, rfl⟩ rfl rfl ?_
          refine xadd 47 _ ⟨u288, _, rfl⟩ rfl rfl (by omega) (by omega) (fun z46 h46 => ?_)
          refine xiald 48 (z46).toInt.toNat hH25 ⟨u288, _, rfl⟩ rfl (by decide) rfl (by omega) (by omega) (fun z47 h47 => ?_)
          refine xgoto ⟨u288, _, rfl⟩ ?_
          exact xret ⟨u288, _, rfl⟩ rfl (hR _ hp2 hH25 P2 (bFr_sub F2 (by decide)) (by rw [t2, g0]; exact g2) (Or.inr ⟨g0, S2, by unfold quV; rw [if_pos (by omega), ← qr b.toInt.toNat (by omega), h47]; congr 1; omega⟩))
      · rcases V25 with ⟨q1, -⟩ | ⟨q1, -⟩ <;> omega
    · refine xcst 20 (1) ⟨u288, _, rfl⟩ rfl (by decide) (fun z19 h19 => ?_)
      refine xgoto ⟨u288, _, rfl⟩ ?_
      refine xcst 25 (2) ⟨u288, _, rfl⟩ rfl (by decide) (fun z24 h24 => ?_)
      refine xcall 28 [.ref 66, .int _, .int _] [] hH2 ⟨u288, _, rfl⟩ rfl rfl rfl rfl rfl (k_failsE hH2 (by omega) (fun hp25 hH25 V25 => ⟨_, rfl, ?_⟩))
      refine xif_eq 31 ⟨u288, _, rfl⟩ rfl (fun c28 => ?_) (fun c28 => ?_)
      · rcases V25 with ⟨q1, -⟩ | ⟨q1, -⟩ <;> omega
      · refine xcst 32 (0) ⟨u288, _, rfl⟩ rfl (by decide) (fun z31 h31 => ?_)
        rcases V25 with ⟨q1, -⟩ | ⟨q1, U⟩
        · omega
        · have g1 := gQu_2 (T := T) g2 (show ¬ (0 ≤ b.toInt ∧ b.toInt ≤ 9) by omega)
          exact xret ⟨u288, _, rfl⟩ rfl (hR _ hp25 hH25 (P0_W (W := [(66, 7)]) (by decide) (rU_fr U rfl) P2) ((bFr_sub F2 (by decide)).trans (rU_fr U (by decide))) (by rw [U.1, g1]; omega) (Or.inl ⟨by rw [g1]; decide, rfS_W (W := [(66, 7)]) S2 (rU_fr U rfl) (fun _ => rfl) rfl rfl (fun _ => rfl) (fun _ => rfl)⟩))
theorem h358E {d : Nat} {hp : amH} {R : cQ} {x1 x2 : Int32} {V n : Nat} {h : Nat → sR} {sv : Option sR} {T : sT} {ty : Nat → Int} (hI : lawI hp) (c : clS hp (V, T, ty) n h sv) (r : rfS hp (V, T, ty) n h sv)
    (hR : ∀ (z : Int32) hp1 mc ms, lawI hp1 → rfS hp1 (V, T, ty) n h sv → z.toInt = gQu T x1.toInt x2.toInt → ((¬ gQu T x1.toInt x2.toInt = 0 ∧ clS hp1 (V, T, ty) n h sv) ∨ (gQu T x1.toInt x2.toInt = 0 ∧ clS hp1 (V, T, ty) n h sv ∧ rJ hp1 83 0 = quV T x1.toInt.toNat x2.toInt.toNat)) → mc ≤ 1 → ms ≤ 6 → R (.inl (some (.int z))) hp1 mc ms) : cK (d + 20) 358 [.ref 0, .int x1, .int x2, .ref 83] hp R := by
  refine cin (M := am_m358) rfl rfl rfl ?_
  refine cald 1 ⟨u358J, _, rfl⟩ rfl rfl ?_
  refine ccst 2 (0) ⟨u358J, _, rfl⟩ rfl (by decide) (fun z1 h1 => ?_)
  refine cald 3 ⟨u358J, _, rfl⟩ rfl rfl ?_
  refine cild 4 ⟨u358J, _, rfl⟩ rfl rfl ?_
  refine cild 5 ⟨u358J, _, rfl⟩ rfl rfl ?_
  refine ccall (kd := 0) (t := 2) [.ref 0, .int _, .int _] [.int _, .ref 83] hI.1 ⟨u358J, _, rfl⟩ (Or.inl ⟨_, rfl, rfl, by decide, by decide⟩) rfl rfl rfl ⟨rfl, rfl, rfl⟩ rfl (recv0 hI.1 _) rfl (qKE (Φ := fun z hp1 => bHk 84 bTT hp1 ∧ cF hp hp1 ∧ gQu T x1.toInt x2.toInt = 0 ∧ clS hp1 (V, T, ty) n h sv ∧ z.toInt = quV T x1.toInt.toNat x2.toInt.toNat) (Ψ := fun E hp1 => lawI hp1 ∧ rfS hp1 (V, T, ty) n h sv ∧ clS hp1 (V, T, ty) n h sv ∧ ¬ gQu T x1.toInt x2.toInt = 0 ∧ ((gQu T x1.toInt x2.toInt = 1 ∧ E = 1) ∨ (gQu T x1.toInt x2.toInt = 2 ∧ E = 0))) (fun R g1 g2 => k_132E (d := d + 14) hI.1 c (fun E hp1 b1 b2 b3 e1 e2 => g2 E hp1 ⟨law_cl hI b1 b2, cF_rf b2 r, b3, e1, e2⟩) (fun z hp1 a1 a2 a3 a4 a5 => g1 z hp1 ⟨a1, a2, a3, a4, a5⟩)) (fun z hp1 φ => Or.inl ⟨_, rfl, ?_⟩) (fun E hp1 ψ => Or.inr ?_))
  · refine ci2lE 9 ⟨u358J, _, rfl⟩ rfl (fun w hw => ?_)
    refine clastE 10 φ.1 ⟨u358J, _, rfl⟩ rfl h1 (fun hp2 hH2 F2 J2 => ?_)
    refine cgoto ⟨u358J, _, rfl⟩ ?_
    refine ccst 22 (0) ⟨u358J, _, rfl⟩ rfl (by decide) (fun z9 h9 => ?_)
    exact cret ⟨u358J, _, rfl⟩ (Or.inl rfl) (hR _ _ _ _ (lawI_83 (law_cl hI φ.1 φ.2.1) hH2 F2) (rf_83 F2 (cF_rf φ.2.1 r)) (by rw [φ.2.2.1]; exact h9) (Or.inr ⟨φ.2.2.1, cl_83 F2 φ.2.2.2.1, by rw [J2, hw]; exact φ.2.2.2.2⟩) (by decide) (by decide))
  · obtain ⟨ψ0, ψr, ψc, ψ1, ψ2⟩ := ψ
    rcases ψ2 with ⟨ce, rfl⟩ | ⟨ce, rfl⟩
    · refine ⟨1, 13, 4, 15, rfl, rfl, rfl, rfl, ?_⟩
      refine ccst 16 (1) ⟨u358J, _, rfl⟩ rfl (by decide) (fun z9 h9 => ?_)
      exact cret ⟨u358J, _, rfl⟩ (Or.inl rfl) (hR _ _ _ _ ψ0 ψr (by rw [ce]; exact h9) (Or.inl ⟨ψ1, ψc⟩) (by decide) (by decide))
    · refine ⟨0, 17, 4, 19, rfl, rfl, rfl, rfl, ?_⟩
      refine ccst 20 (2) ⟨u358J, _, rfl⟩ rfl (by decide) (fun z9 h9 => ?_)
      exact cret ⟨u358J, _, rfl⟩ (Or.inl rfl) (hR _ _ _ _ ψ0 ψr (by rw [ce]; exact h9) (Or.inl ⟨ψ1, ψc⟩) (by decide) (by decide))
