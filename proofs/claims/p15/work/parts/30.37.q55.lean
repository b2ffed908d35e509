/-! ===== mostApart on both sides ===== -/
/-- the most apart from the triple t on, of f triples -/
def mo (T : sT) : Nat → Nat → Nat → Nat
  | 0, _, _ => 0
  | f + 1, t, u => max (mo T f (t + 1) u) (if mN T t &&& u = 0 then 1 + mo T f (t + 1) (u ||| mN T t) else 0)
theorem mo_s {T : sT} {f t u : Nat} : mo T (f + 1) t u = max (mo T f (t + 1) u) (if mN T t &&& u = 0 then 1 + mo T f (t + 1) (u ||| mN T t) else 0) := rfl
theorem mo_le {T : sT} : ∀ f t u, mo T f t u ≤ f
  | 0, _, _ => Nat.le_refl _
  | f + 1, t, u => by
    have a := mo_le (T := T) f (t + 1) u
    have b := mo_le (T := T) f (t + 1) (u ||| mN T t)
    rw [mo_s]
    refine Nat.max_le.mpr ⟨by omega, ?_⟩
    split <;> omega
theorem pq_m3 {x y z : Nat} (hx : x < 15) (hy : y < 15) (hz : z < 15) (hxy : ¬ x = y) (hyz : ¬ y = z) (hxz : ¬ x = z) : pq (m3 x y z) = 3 := by
  have h := bc_3 (m := m3 x y z) hx hy hz hxy hyz hxz
  have h1 : m3 x y z < 2 ^ 15 := by
    unfold m3
    exact Nat.or_lt_two_pow (Nat.or_lt_two_pow (Nat.pow_lt_pow_right (by decide) hx) (Nat.pow_lt_pow_right (by decide) hy)) (Nat.pow_lt_pow_right (by decide) hz)
  rw [Nat.and_self, bc_pq h1, iv_t (by rw [m3_test]; simp), iv_t (by rw [m3_test]; simp), iv_t (by rw [m3_test]; simp)] at h
  omega
theorem pq_mN {V : Nat} {T : sT} (hT : sOk V T) {t : Nat} (ht : t < (trL T 225).length) : pq (mN T t) = 3 := by
  obtain ⟨x, y, z, q1, q2, q3, q4, q5⟩ := mN_p hT ht
  have hV := hT.2.1
  rw [q1]
  exact pq_m3 (by omega) (by omega) (by omega) (by omega) (by omega) (by omega)
theorem pq_or {m u : Nat} (h : m &&& u = 0) : pq (u ||| m) = pq u + pq m := by
  rw [pq_b, pq_b, pq_b, ← sm_add]
  refine sm_ext 15 (fun i _ => ?_)
  have e : (m &&& u).testBit i = false := by rw [h, Nat.zero_testBit]
  rw [Nat.testBit_and] at e
  have f : (u ||| m).testBit i = (u.testBit i || m.testBit i) := Nat.testBit_or ..
  rw [iv_eq (show (u ||| m).testBit i = true ↔ (u.testBit i || m.testBit i) = true by rw [f])]
  cases g1 : u.testBit i <;> cases g2 : m.testBit i
  · rfl
  · rfl
  · rfl
  · rw [g1, g2] at e; cases e
theorem md_full {V : Nat} {T : sT} (hT : sOk V T) {t u : Nat} (ht : t < (trL T 225).length) (hu : u < 32768) (h : 15 ≤ pq u) : ¬ mN T t &&& u = 0 := by
  intro w
  have a := pq_or w
  have b := pq_mN hT ht
  have l : u ||| mN T t < 2 ^ 15 := Nat.or_lt_two_pow hu (mN_lt hT ht).1
  have c := pq_15 l
  omega
theorem mo_full {V : Nat} {T : sT} (hT : sOk V T) {u : Nat} (hu : u < 32768) (h : 15 ≤ pq u) : ∀ f t, t + f ≤ (trL T 225).length → mo T f t u = 0
  | 0, _, _ => rfl
  | f + 1, t, hf => by
    rw [mo_s, mo_full hT hu h f (t + 1) (by omega), if_neg (md_full hT (by omega) hu h)]
    rfl
theorem u193 : bUp 0 am_m193.1 = true := by decide +kernel
theorem l193E {d V u k X : Nat} {T : sT} {hp : amH} {R : xQ} {a b c : Int32} (hH : bHk 84 bTT hp) (hL : lsN hp 3 T 225) (hT : sOk V T) (hb : b.toInt = (u : Int)) (hu : u < 32768) (hc : c.toInt = (k : Int)) (hk : k ≤ 5)
    (hC : ∀ (t m : Nat) (a2 b2 c2 : Int32) (R2 : xQ), a2.toInt = (t : Int) → b2.toInt = (m : Int) → c2.toInt = ((k + 1 : Nat) : Int) → m < 32768 → t ≤ (trL T 225).length → pq u + 3 ≤ pq m → (∀ z : Int32, z.toInt = ((mo T ((trL T 225).length - t) t m : Nat) : Int) → R2 (.inl (some (.int z))) hp) → xK d 193 [.ref 3, .int a2, .int b2, .int c2] hp R2)
    (hR : ∀ z : Int32, z.toInt = (X : Int) → R (.inl (some (.int z))) hp) :
    ∀ (jj t best : Nat) (w wt : Int32) (v6 : Option Value), wt.toInt = (t : Int) → t + jj = (trL T 225).length → w.toInt = (best : Int) → best ≤ 36 → max best (mo T jj t u) = X → xV (d + 1) am_m193 13 [some (.ref 3), some (.int a), some (.int b), some (.int c), some (.int w), some (.int wt), v6] [] hp R := by
  have l35 := trL_35 hT 225
  have b1 : rN hp 3 1 = (((trL T 225).length : Nat) : Int) := hL.1
  intro jj
  induction jj with
  | zero =>
    intro t best w wt v6 hwt hj hw hb36 hx
    have hx : max best 0 = X := hx
    refine xild2 15 ⟨u193, _, rfl⟩ rfl rfl ?_
    refine xald 16 ⟨u193, _, rfl⟩ rfl rfl ?_
    refine xgetC 19 hH ⟨u193, _, rfl⟩ rfl (by decide) (by decide) rfl rfl (by decide) (fun z16 h16 => ?_)
    refine xcmp_ge 22 ⟨u193, _, rfl⟩ rfl (fun c19 => ?_) (fun c19 => ?_)
    · refine xild2 69 ⟨u193, _, rfl⟩ rfl rfl ?_
      exact xret ⟨u193, _, rfl⟩ rfl (hR _ (by omega))
    · omega
  | succ jj ih =>
    intro t best w wt v6 hwt hj hw hb36 hx
    have ht : t < (trL T 225).length := by omega
    have ml := (mN_lt hT ht).1
    have ol : u ||| mN T t < 2 ^ 15 := Nat.or_lt_two_pow hu ml
    have e3 := pq_mN hT ht
    rw [mo_s] at hx
    have le := mo_le (T := T) jj (t + 1) (u ||| mN T t)
    refine xild2 15 ⟨u193, _, rfl⟩ rfl rfl ?_
    refine xald 16 ⟨u193, _, rfl⟩ rfl rfl ?_
    refine xgetC 19 hH ⟨u193, _, rfl⟩ rfl (by decide) (by decide) rfl rfl (by decide) (fun z16 h16 => ?_)
    refine xcmp_ge 22 ⟨u193, _, rfl⟩ rfl (fun c19 => ?_) (fun c19 => ?_)
    · omega
    · refine xald 23 ⟨u193, _, rfl⟩ rfl rfl ?_
      refine xild2 25 ⟨u193, _, rfl⟩ rfl rfl ?_
      refine xcallC 28 (o := 3) [.int _] [] hH ⟨u193, _, rfl⟩ rfl rfl (by decide) rfl (by decide) rfl ⟨rfl, rfl, rfl, rfl⟩ rfl (k_setL hH hL (t := t) hwt ht (fun z25 h25 => ⟨_, rfl, ?_⟩))
      refine xist2 30 ⟨u193, _, rfl⟩ rfl rfl ?_
      refine xild2 32 ⟨u193, _, rfl⟩ rfl rfl ?_
      refine xild 33 ⟨u193, _, rfl⟩ rfl rfl ?_
      refine xand 34 ⟨u193, _, rfl⟩ rfl ?_
      have e33 := i_and h25 hb ml
      refine xif_ne 37 ⟨u193, _, rfl⟩ rfl (fun c34 => ?_) (fun c34 => ?_)
      · have dj : ¬ mN T t &&& u = 0 := by omega
        rw [if_neg dj, Nat.max_zero] at hx
        refine xinc 64 (1) ⟨u193, _, rfl⟩ rfl rfl rfl (by decide) (by omega) (by omega) (fun z61 h61 => ?_)
        refine xgoto ⟨u193, _, rfl⟩ ?_
        exact ih (t + 1) best _ _ _ (by omega) (by omega) hw hb36 hx
      · have dj : mN T t &&& u = 0 := by omega
        rw [if_pos dj] at hx
        refine xild2 39 ⟨u193, _, rfl⟩ rfl rfl ?_
        refine xcst 40 (1) ⟨u193, _, rfl⟩ rfl (by decide) (fun z39 h39 => ?_)
        refine xald 41 ⟨u193, _, rfl⟩ rfl rfl ?_
        refine xild2 43 ⟨u193, _, rfl⟩ rfl rfl ?_
        refine xcst 44 (1) ⟨u193, _, rfl⟩ rfl (by decide) (fun z43 h43 => ?_)
        refine xadd 45 _ ⟨u193, _, rfl⟩ rfl rfl (by omega) (by omega) (fun z44 h44 => ?_)
        refine xild 46 ⟨u193, _, rfl⟩ rfl rfl ?_
        refine xild2 48 ⟨u193, _, rfl⟩ rfl rfl ?_
        have e48 := i_or hb h25 hu ml
        refine xor_ 49 ⟨u193, _, rfl⟩ rfl ?_
        refine xild 50 ⟨u193, _, rfl⟩ rfl rfl ?_
        refine xcst 51 (1) ⟨u193, _, rfl⟩ rfl (by decide) (fun z50 h50 => ?_)
        refine xadd 52 _ ⟨u193, _, rfl⟩ rfl rfl (by omega) (by omega) (fun z51 h51 => ?_)
        refine xcallS 55 [.ref 3, .int _, .int _, .int _] [.int _, .int _] hH ⟨u193, _, rfl⟩ rfl rfl rfl rfl rfl (hC (t + 1) (u ||| mN T t) _ _ _ _ (by omega) e48.1 (by omega) ol (by omega) (by rw [pq_or dj, e3]; exact Nat.le_refl _) (fun z52 h52 => ⟨_, rfl, ?_⟩))
        rw [show (trL T 225).length - (t + 1) = jj by omega] at h52
        refine xadd 56 _ ⟨u193, _, rfl⟩ rfl rfl (by omega) (by omega) (fun z55 h55 => ?_)
        refine xcallS 59 [.int _, .int _] [] hH ⟨u193, _, rfl⟩ rfl rfl rfl rfl rfl (k_max (fun z56 h56 => ⟨_, rfl, ?_⟩))
        refine xist2 61 ⟨u193, _, rfl⟩ rfl rfl ?_
        refine xinc 64 (1) ⟨u193, _, rfl⟩ rfl rfl rfl (by decide) (by omega) (by omega) (fun z61 h61 => ?_)
        refine xgoto ⟨u193, _, rfl⟩ ?_
        exact ih (t + 1) (max best (1 + mo T jj (t + 1) (u ||| mN T t))) _ _ _ (by omega) (by omega) (by omega) (by omega) (by omega)
theorem k_193E {V : Nat} {T : sT} {hp : amH} (hH : bHk 84 bTT hp) (hL : lsN hp 3 T 225) (hT : sOk V T) : ∀ (j k t u d : Nat) (R : xQ) (a b c : Int32), k + j = 5 → a.toInt = (t : Int) → b.toInt = (u : Int) → c.toInt = (k : Int) → u < 32768 → t ≤ (trL T 225).length → 3 * k ≤ pq u →
    (∀ z : Int32, z.toInt = ((mo T ((trL T 225).length - t) t u : Nat) : Int) → R (.inl (some (.int z))) hp) → xK (d + 1 + j) 193 [.ref 3, .int a, .int b, .int c] hp R := by
  have l35 := trL_35 hT 225
  intro j
  induction j with
  | zero =>
    intro k t u d R a b c hk ha hb hc hu ht hp3 hR
    refine xin (M := am_m193) rfl rfl rfl ?_
    refine xild 1 ⟨u193, _, rfl⟩ rfl rfl ?_
    refine xcst 2 (5) ⟨u193, _, rfl⟩ rfl (by decide) (fun z1 h1 => ?_)
    refine xcmp_lt 5 ⟨u193, _, rfl⟩ rfl (fun c2 => ?_) (fun c2 => ?_)
    · omega
    · refine xcst 6 (0) ⟨u193, _, rfl⟩ rfl (by decide) (fun z5 h5 => ?_)
      exact xret ⟨u193, _, rfl⟩ rfl (hR _ (by rw [mo_full hT hu (by omega) _ _ (by omega)]; omega))
  | succ j ih =>
    intro k t u d R a b c hk ha hb hc hu ht hp3 hR
    refine xin (M := am_m193) rfl rfl rfl ?_
    refine xild 1 ⟨u193, _, rfl⟩ rfl rfl ?_
    refine xcst 2 (5) ⟨u193, _, rfl⟩ rfl (by decide) (fun z1 h1 => ?_)
    refine xcmp_lt 5 ⟨u193, _, rfl⟩ rfl (fun c2 => ?_) (fun c2 => ?_)
    · refine xcst 8 (0) ⟨u193, _, rfl⟩ rfl (by decide) (fun z7 h7 => ?_)
      refine xist2 10 ⟨u193, _, rfl⟩ rfl rfl ?_
      refine xild 11 ⟨u193, _, rfl⟩ rfl rfl ?_
      refine xist2 13 ⟨u193, _, rfl⟩ rfl rfl ?_
      refine xpad 1 ?_
      exact l193E (d := d + 1 + j) (k := k) hH hL hT hb hu hc (by omega) (fun t2 m2 a2 b2 c2 R2 g1 g2 g3 g4 g5 g6 g7 => ih (k + 1) t2 m2 d R2 a2 b2 c2 (by omega) g1 g2 g3 g4 g5 (by omega) g7) hR ((trL T 225).length - t) t 0 _ _ _ ha (by omega) (by omega) (by omega) (Nat.zero_max _)
    · omega
theorem u166 : bUp 0 am_m166.1 = true := by decide +kernel
theorem k_166E {d V n : Nat} {h : Nat → sR} {sv : Option sR} {T : sT} {ty : Nat → Int} {hp : amH} {R : xQ} (hH : bHk 84 bTT hp) (hS : clS hp (V, T, ty) n h sv)
    (hR : ∀ (z : Int32) hp1, bHk 84 bTT hp1 → cF hp hp1 → clS hp1 (V, T, ty) n h sv → z.toInt = ((mo T (trL T 225).length 0 0 : Nat) : Int) → R (.inl (some (.int z))) hp1) : xK (d + 8) 166 [.ref 0] hp R := by
  have hB : bdOk hp 3 V T := hS.1
  have b0 : rN hp 3 0 = (V : Int) := hB.1
  have hL : lsN hp 3 T 225 := hS.2.1
  have b1 : rN hp 3 1 = (((trL T 225).length : Nat) : Int) := hL.1
  have hT0 : sOk V T := hB.2.1
  have h15 : V ≤ 15 := hT0.2.1
  have l35 : (trL T 225).length ≤ 35 := trL_35 hT0 225
  refine xin (M := am_m166) rfl rfl rfl ?_
  refine xald 1 ⟨u166, _, rfl⟩ rfl rfl ?_
  refine xgetD 4 (3) hH ⟨u166, _, rfl⟩ rfl (by decide) (by decide) rfl rfl (by decide) ?_
  refine xcst 5 (0) ⟨u166, _, rfl⟩ rfl (by decide) (fun z4 h4 => ?_)
  refine xcst 6 (0) ⟨u166, _, rfl⟩ rfl (by decide) (fun z5 h5 => ?_)
  refine xcst 7 (0) ⟨u166, _, rfl⟩ rfl (by decide) (fun z6 h6 => ?_)
  refine xcallS 10 [.ref 3, .int _, .int _, .int _] [] hH ⟨u166, _, rfl⟩ rfl rfl rfl rfl rfl (k_193E hH hL hT0 5 0 0 0 (d + 1) _ _ _ _ (by omega) (by omega) (by omega) (by omega) (by omega) (by omega) (by omega) (fun z7 h7 => ⟨_, rfl, ?_⟩))
  rw [Nat.sub_zero] at h7
  exact xret ⟨u166, _, rfl⟩ rfl (hR _ _ hH cF.refl hS h7)
theorem u333 : bUp 0 am_m333.1 = true := by decide +kernel
theorem l333E {d V u X : Nat} {T : sT} {hp : amH} {R : xQ} {a b : Int32} (hH : bHk 84 bTT hp) (hL : rlN hp T 225) (hT : sOk V T) (hb : b.toInt = (u : Int)) (hu : u < 32768)
    (hC : ∀ (t m : Nat) (a2 b2 : Int32) (R2 : xQ), a2.toInt = (t : Int) → b2.toInt = (m : Int) → m < 32768 → t ≤ (trL T 225).length → pq u + 3 ≤ pq m → (∀ z : Int32, z.toInt = ((mo T ((trL T 225).length - t) t m : Nat) : Int) → R2 (.inl (some (.int z))) hp) → xK d 333 [.ref 66, .int a2, .int b2] hp R2)
    (hR : ∀ z : Int32, z.toInt = (X : Int) → R (.inl (some (.int z))) hp) :
    ∀ (jj t best : Nat) (w wt : Int32), wt.toInt = (t : Int) → t + jj = (trL T 225).length → w.toInt = (best : Int) → best ≤ 36 → max best (mo T jj t u) = X → xV (d + 1) am_m333 5 [some (.ref 66), some (.int a), some (.int b), some (.int w), some (.int wt)] [] hp R := by
  have l35 := trL_35 hT 225
  have b1 : rN hp 66 12 = (((trL T 225).length : Nat) : Int) := hL.1
  intro jj
  induction jj with
  | zero =>
    intro t best w wt hwt hj hw hb36 hx
    have hx : max best 0 = X := hx
    refine xild2 7 ⟨u333, _, rfl⟩ rfl rfl ?_
    refine xald 8 ⟨u333, _, rfl⟩ rfl rfl ?_
    refine xgetI 11 hH ⟨u333, _, rfl⟩ rfl rfl (fun z8 h8 => ?_)
    refine xcmp_ge 14 ⟨u333, _, rfl⟩ rfl (fun c11 => ?_) (fun c11 => ?_)
    · refine xild 57 ⟨u333, _, rfl⟩ rfl rfl ?_
      exact xret ⟨u333, _, rfl⟩ rfl (hR _ (by omega))
    · omega
  | succ jj ih =>
    intro t best w wt hwt hj hw hb36 hx
    have ht : t < (trL T 225).length := by omega
    have ml := (mN_lt hT ht).1
    have ol : u ||| mN T t < 2 ^ 15 := Nat.or_lt_two_pow hu ml
    have e3 := pq_mN hT ht
    rw [mo_s] at hx
    have le := mo_le (T := T) jj (t + 1) (u ||| mN T t)
    have Lt := (hL.2 t ht).2.2.2
    have et : wt.toInt.toNat = t := by omega
    refine xild2 7 ⟨u333, _, rfl⟩ rfl rfl ?_
    refine xald 8 ⟨u333, _, rfl⟩ rfl rfl ?_
    refine xgetI 11 hH ⟨u333, _, rfl⟩ rfl rfl (fun z8 h8 => ?_)
    refine xcmp_ge 14 ⟨u333, _, rfl⟩ rfl (fun c11 => ?_) (fun c11 => ?_)
    · omega
    · refine xald 15 ⟨u333, _, rfl⟩ rfl rfl ?_
      refine xgetR 18 75 hH ⟨u333, _, rfl⟩ rfl rfl ?_
      refine xild2 20 ⟨u333, _, rfl⟩ rfl rfl ?_
      refine xiald 21 (wt).toInt.toNat hH ⟨u333, _, rfl⟩ rfl (by decide) rfl (by omega) (by omega) (fun z20 h20 => ?_)
      refine xild 22 ⟨u333, _, rfl⟩ rfl rfl ?_
      refine xand 23 ⟨u333, _, rfl⟩ rfl ?_
      have e20 : z20.toInt = ((mN T t : Nat) : Int) := by rw [h20, et]; exact Lt
      have e22 := i_and e20 hb ml
      refine xif_ne 26 ⟨u333, _, rfl⟩ rfl (fun c23 => ?_) (fun c23 => ?_)
      · have dj : ¬ mN T t &&& u = 0 := by omega
        rw [if_neg dj, Nat.max_zero] at hx
        refine xinc 53 (1) ⟨u333, _, rfl⟩ rfl rfl rfl (by decide) (by omega) (by omega) (fun z50 h50 => ?_)
        refine xgoto ⟨u333, _, rfl⟩ ?_
        exact ih (t + 1) best _ _ (by omega) (by omega) hw hb36 hx
      · have dj : mN T t &&& u = 0 := by omega
        rw [if_pos dj] at hx
        refine xild 27 ⟨u333, _, rfl⟩ rfl rfl ?_
        refine xcst 28 (1) ⟨u333, _, rfl⟩ rfl (by decide) (fun z27 h27 => ?_)
        refine xald 29 ⟨u333, _, rfl⟩ rfl rfl ?_
        refine xild2 31 ⟨u333, _, rfl⟩ rfl rfl ?_
        refine xcst 32 (1) ⟨u333, _, rfl⟩ rfl (by decide) (fun z31 h31 => ?_)
        refine xadd 33 _ ⟨u333, _, rfl⟩ rfl rfl (by omega) (by omega) (fun z32 h32 => ?_)
        refine xild 34 ⟨u333, _, rfl⟩ rfl rfl ?_
        refine xald 35 ⟨u333, _, rfl⟩ rfl rfl ?_
        refine xgetR 38 75 hH ⟨u333, _, rfl⟩ rfl rfl ?_
        refine xild2 40 ⟨u333, _, rfl⟩ rfl rfl ?_
        refine xiald 41 (wt).toInt.toNat hH ⟨u333, _, rfl⟩ rfl (by decide) rfl (by omega) (by omega) (fun z40 h40 => ?_)
        refine xor_ 42 ⟨u333, _, rfl⟩ rfl ?_
        have e40 : z40.toInt = ((mN T t : Nat) : Int) := by rw [h40, et]; exact Lt
        have e41 := i_or hb e40 hu ml
        refine xcall 45 [.ref 66, .int _, .int _] [.int _, .int _] hH ⟨u333, _, rfl⟩ rfl rfl rfl rfl rfl (hC (t + 1) (u ||| mN T t) _ _ _ (by omega) e41.1 ol (by omega) (by rw [pq_or dj, e3]; exact Nat.le_refl _) (fun z42 h42 => ⟨_, rfl, ?_⟩))
        rw [show (trL T 225).length - (t + 1) = jj by omega] at h42
        refine xadd 46 _ ⟨u333, _, rfl⟩ rfl rfl (by omega) (by omega) (fun z45 h45 => ?_)
        refine xcallS 49 [.int _, .int _] [] hH ⟨u333, _, rfl⟩ rfl rfl rfl rfl rfl (k_max (fun z46 h46 => ⟨_, rfl, ?_⟩))
        refine xist 50 ⟨u333, _, rfl⟩ rfl rfl ?_
        refine xinc 53 (1) ⟨u333, _, rfl⟩ rfl rfl rfl (by decide) (by omega) (by omega) (fun z50 h50 => ?_)
        refine xgoto ⟨u333, _, rfl⟩ ?_
        exact ih (t + 1) (max best (1 + mo T jj (t + 1) (u ||| mN T t))) _ _ (by omega) (by omega) (by omega) (by omega) (by omega)
theorem k_333E {V : Nat} {T : sT} {hp : amH} (hH : bHk 84 bTT hp) (hL : rlN hp T 225) (hT : sOk V T) : ∀ (j t u d : Nat) (R : xQ) (a b : Int32), 15 ≤ pq u + 3 * j → a.toInt = (t : Int) → b.toInt = (u : Int) → u < 32768 → t ≤ (trL T 225).length →
    (∀ z : Int32, z.toInt = ((mo T ((trL T 225).length - t) t u : Nat) : Int) → R (.inl (some (.int z))) hp) → xK (d + 1 + j) 333 [.ref 66, .int a, .int b] hp R := by
  intro j
  induction j with
  | zero =>
    intro t u d R a b h15 ha hb hu ht hR
    refine xin (M := am_m333) rfl rfl rfl ?_
    refine xcst 1 (0) ⟨u333, _, rfl⟩ rfl (by decide) (fun z0 h0 => ?_)
    refine xist 2 ⟨u333, _, rfl⟩ rfl rfl ?_
    refine xild 3 ⟨u333, _, rfl⟩ rfl rfl ?_
    refine xist2 5 ⟨u333, _, rfl⟩ rfl rfl ?_
    exact l333E (d := d) hH hL hT hb hu (fun t2 m2 a2 b2 R2 g1 g2 g4 g5 g6 g7 => absurd (pq_15 g4) (by omega)) hR ((trL T 225).length - t) t 0 _ _ ha (by omega) (by omega) (by omega) (Nat.zero_max _)
  | succ j ih =>
    intro t u d R a b h15 ha hb hu ht hR
    refine xin (M := am_m333) rfl rfl rfl ?_
    refine xcst 1 (0) ⟨u333, _, rfl⟩ rfl (by decide) (fun z0 h0 => ?_)
    refine xist 2 ⟨u333, _, rfl⟩ rfl rfl ?_
    refine xild 3 ⟨u333, _, rfl⟩ rfl rfl ?_
    refine xist2 5 ⟨u333, _, rfl⟩ rfl rfl ?_
    exact l333E (d := d + 1 + j) hH hL hT hb hu (fun t2 m2 a2 b2 R2 g1 g2 g4 g5 g6 g7 => ih t2 m2 d R2 a2 b2 (by omega) g1 g2 g4 g5 g7) hR ((trL T 225).length - t) t 0 _ _ ha (by omega) (by omega) (by omega) (Nat.zero_max _)
theorem u334 : bUp 0 am_m334.1 = true := by decide +kernel
theorem k_334E {d V n : Nat} {h : Nat → sR} {sv : Option sR} {T : sT} {ty : Nat → Int} {hp : amH} {R : xQ} (hH : bHk 84 bTT hp) (hP : P0 hp) (hS : rfS hp (V, T, ty) n h sv)
    (hR : ∀ (z : Int32) hp1, bHk 84 bTT hp1 → P0 hp1 → bFr wM hp hp1 → rfS hp1 (V, T, ty) n h sv → z.toInt = ((mo T (trL T 225).length 0 0 : Nat) : Int) → R (.inl (some (.int z))) hp1) : xK (d + 8) 334 [.ref 66] hp R := by
  have hB : rdOk hp V T := rowOk_rd hS.1
  have b0 : rN hp 67 0 = (V : Int) := hB.1
  have hT0 : sOk V T := hB.2.1
  have h15 : V ≤ 15 := hT0.2.1
  have l35 : (trL T 225).length ≤ 35 := trL_35 hT0 225
  refine xin (M := am_m334) rfl rfl rfl ?_
  refine xald 1 ⟨u334, _, rfl⟩ rfl rfl ?_
  refine xcst 2 (0) ⟨u334, _, rfl⟩ rfl (by decide) (fun z1 h1 => ?_)
  refine xputI 5 hH ⟨u334, _, rfl⟩ rfl rfl ⟨rfl, rfl⟩ (by omega) (by omega) (fun hp2 hH2 U2 => ?_)
  have s2 := U2.1
  have S2 := rfS_W (W := [(66, 7)]) hS (rU_fr U2 rfl) (fun _ => rfl) rfl rfl (fun _ => rfl) (fun _ => rfl)
  have P2 := P0_W (W := [(66, 7)]) (by decide) (rU_fr U2 rfl) hP
  have B2 := rowOk_rd S2.1
  refine xald 6 ⟨u334, _, rfl⟩ rfl rfl ?_
  refine xcall 9 [.ref 66] [] hH2 ⟨u334, _, rfl⟩ rfl rfl rfl rfl rfl (k_rlst hH2 B2 (fun hp6 hH6 F6 B6 L6 => ⟨_, rfl, ?_⟩))
  have P6 := P0_W (W := bLT) (by decide) F6 P2
  refine xald 10 ⟨u334, _, rfl⟩ rfl rfl ?_
  refine xcst 11 (0) ⟨u334, _, rfl⟩ rfl (by decide) (fun z10 h10 => ?_)
  refine xcst 12 (0) ⟨u334, _, rfl⟩ rfl (by decide) (fun z11 h11 => ?_)
  refine xcall 15 [.ref 66, .int _, .int _] [] hH6 ⟨u334, _, rfl⟩ rfl rfl rfl rfl rfl (k_333E hH6 L6 hT0 5 0 0 (d + 1) _ _ _ (by omega) (by omega) (by omega) (by omega) (by omega) (fun z12 h12 => ⟨_, rfl, ?_⟩))
  rw [Nat.sub_zero] at h12
  exact xret ⟨u334, _, rfl⟩ rfl (hR _ hp6 hH6 P6 ((rU_fr U2 (by decide)).trans (bFr_sub F6 (by decide))) (rfS_W S2 F6 (fun _ => rfl) rfl rfl (fun _ => rfl) (fun _ => rfl)) h12)
