/-! ===== turns that keep the system ===== -/
theorem hC_gap {σ : Nat → Nat} {T : sT} (a : Nat) : ∀ b, hC σ T (a + b) + (trL T a).length ≤ hC σ T a + (trL T (a + b)).length
  | 0 => Nat.le_refl _
  | b + 1 => by
    have ih := hC_gap (σ := σ) (T := T) a b
    have e : (trL T (a + (b + 1))) = (if trB T (a + b) = true then trL T (a + b) ++ [a + b] else trL T (a + b)) := rfl
    rw [e]
    show hC σ T (a + b) + (if trB T (a + b) = true ∧ T (σ ((a + b) / 15)) (σ ((a + b) % 15)) = ((σ (T ((a + b) / 15) ((a + b) % 15)).toNat : Nat) : Int) then 1 else 0) + (trL T a).length ≤ _
    by_cases h : trB T (a + b) = true
    · rw [if_pos h, List.length_append, List.length_singleton]
      split <;> omega
    · rw [if_neg h, if_neg (fun z => h z.1)]
      omega
def tkB (V k : Nat) (T : sT) : Bool := decide (hC (tn V k) T 225 = (trL T 225).length)
def tkV (V k : Nat) (T : sT) : Int := if tkB V k T = true then 1 else 0
theorem tkV_y {V k : Nat} {T : sT} (h : hC (tn V k) T 225 = (trL T 225).length) : tkV V k T = 1 := if_pos (decide_eq_true h)
theorem tkV_n {V k : Nat} {T : sT} (h : ¬ hC (tn V k) T 225 = (trL T 225).length) : tkV V k T = 0 := if_neg (fun z => h (of_decide_eq_true z))
theorem tkV_01 {V k : Nat} {T : sT} : tkV V k T = 0 ∨ tkV V k T = 1 := by unfold tkV; split <;> simp
theorem tk_no {σ : Nat → Nat} {T : sT} {n t : Nat} (hn : n < 225) (e1 : (trL T (n + 1)).length = t + 1) (e2 : hC σ T (n + 1) = t) : ¬ hC σ T 225 = (trL T 225).length := by
  have g := hC_gap (σ := σ) (T := T) (n + 1) (225 - (n + 1))
  rw [show n + 1 + (225 - (n + 1)) = 225 by omega] at g
  omega
theorem tn_0 {V p : Nat} (h : p < V) : tn V 0 p = p := by unfold tn; rw [Nat.add_zero, Nat.mod_eq_of_lt h]
theorem hC_id {V : Nat} {T : sT} (hT : sOk V T) : ∀ m, hC (tn V 0) T m = (trL T m).length
  | 0 => rfl
  | m + 1 => by
    have ih := hC_id hT m
    have e : (trL T (m + 1)) = (if trB T m = true then trL T m ++ [m] else trL T m) := rfl
    rw [e]
    show hC (tn V 0) T m + (if trB T m = true ∧ T (tn V 0 (m / 15)) (tn V 0 (m % 15)) = ((tn V 0 (T (m / 15) (m % 15)).toNat : Nat) : Int) then 1 else 0) = _
    by_cases h : trB T m = true
    · obtain ⟨z, h1, h2, h3, h4⟩ := tr_pts hT h
      rw [if_pos h, List.length_append, List.length_singleton, if_pos ⟨h, ?_⟩, ih]
      rw [h1, Int.toNat_natCast, tn_0 (by omega), tn_0 (by omega), tn_0 h4]
      exact h1
    · rw [if_neg h, if_neg (fun z => h z.1), ih]
theorem tk_0 {V : Nat} {T : sT} (hT : sOk V T) : tkV V 0 T = 1 := tkV_y (hC_id hT 225)
theorem u29 : bUp 0 am_m29.1 = true := by decide +kernel
theorem l29E {d V x : Nat} {T : sT} {hp : amH} {R : xQ} {a : Int32} (hH : bHk 84 bTT hp) (hB : bdOk hp 3 V T) (hL : lsN hp 3 T 225) (ha : a.toInt = (x : Int)) (hx : x < V)
    (hR : ∀ z : Int32, z.toInt = tkV V x T → R (.inl (some (.int z))) hp) :
    ∀ (jj t m : Nat) (wt : Int32), wt.toInt = (t : Int) → t + jj = (trL T 225).length → (trL T m).length = t → hC (tn V x) T m = t → xV (d + 3) am_m29 2 [some (.ref 3), some (.int a), some (.int wt)] [] hp R := by
  have hT := hB.2.1
  have b0 : rN hp 3 0 = (V : Int) := hB.1
  have b1 : rN hp 3 1 = (((trL T 225).length : Nat) : Int) := hL.1
  have hV := hT.2.1
  have l35 := trL_35 hT 225
  have hs := sPm_tn hx
  intro jj
  induction jj with
  | zero =>
    intro t m wt hwt hj hm hw
    have eC : hC (tn V x) T m = hC (tn V x) T 225 := hC_eq (by omega)
    refine xild 3 ⟨u29, _, rfl⟩ rfl rfl ?_
    refine xald 4 ⟨u29, _, rfl⟩ rfl rfl ?_
    refine xgetC 7 hH ⟨u29, _, rfl⟩ rfl (by decide) (by decide) rfl rfl (by decide) (fun z4 h4 => ?_)
    refine xcmp_ge 10 ⟨u29, _, rfl⟩ rfl (fun c7 => ?_) (fun c7 => ?_)
    · refine xcst 39 (1) ⟨u29, _, rfl⟩ rfl (by decide) (fun z38 h38 => ?_)
      exact xretB ⟨u29, _, rfl⟩ rfl (by omega) (hR _ (by rw [tkV_y (by omega)]; omega))
    · omega
  | succ jj ih =>
    intro t m wt hwt hj hm hw
    obtain ⟨n, u, v, z, q1, q2, q3, q4, q5, -, -, q0, q6, -, -, q9⟩ := mv_next hT hs (t := t) (by omega) hm
    have hn : n < 225 := by have := (trL_get 225 t (by omega)).2.1; rw [q0] at this; exact this
    have bu := hs.1 u (by omega)
    have bv := hs.1 v (by omega)
    have bz := hs.1 z (by omega)
    have nuv : ¬ tn V x u = tn V x v := fun k => by have := hs.2.1 _ _ (by omega) (by omega) k; omega
    have nvz : ¬ tn V x v = tn V x z := fun k => by have := hs.2.1 _ _ (by omega) (by omega) k; omega
    have nuz : ¬ tn V x u = tn V x z := fun k => by have := hs.2.1 _ _ (by omega) (by omega) k; omega
    have ml := (mN_lt hT (show t < (trL T 225).length by omega)).1
    have ex : rotN V x (m3 u v z) = m3 (tn V x u) (tn V x v) (tn V x z) := rot_m3 hV hx (by omega) (by omega) (by omega)
    refine xild 3 ⟨u29, _, rfl⟩ rfl rfl ?_
    refine xald 4 ⟨u29, _, rfl⟩ rfl rfl ?_
    refine xgetC 7 hH ⟨u29, _, rfl⟩ rfl (by decide) (by decide) rfl rfl (by decide) (fun z4 h4 => ?_)
    refine xcmp_ge 10 ⟨u29, _, rfl⟩ rfl (fun c7 => ?_) (fun c7 => ?_)
    · omega
    · refine xald 11 ⟨u29, _, rfl⟩ rfl rfl ?_
      refine xald 12 ⟨u29, _, rfl⟩ rfl rfl ?_
      refine xild 13 ⟨u29, _, rfl⟩ rfl rfl ?_
      refine xcallC 16 (o := 3) [.int _] [.ref 3] hH ⟨u29, _, rfl⟩ rfl rfl (by decide) rfl (by decide) rfl ⟨rfl, rfl, rfl, rfl⟩ rfl (k_setL hH hL (t := t) (by omega) (by omega) (fun z13 h13 => ⟨_, rfl, ?_⟩))
      refine xild 17 ⟨u29, _, rfl⟩ rfl rfl ?_
      refine xald 18 ⟨u29, _, rfl⟩ rfl rfl ?_
      refine xgetC 21 hH ⟨u29, _, rfl⟩ rfl (by decide) (by decide) rfl rfl (by decide) (fun z18 h18 => ?_)
      refine xcallS 24 [.int _, .int _, .int _] [.ref 3] hH ⟨u29, _, rfl⟩ rfl rfl rfl rfl rfl (k_rot h13 ml ha (by omega) hx hV (fun z21 h21 => ⟨_, rfl, ?_⟩))
      rw [q1, ex] at h21
      refine xcallC 27 (o := 3) [.int _] [] hH ⟨u29, _, rfl⟩ rfl rfl (by decide) rfl (by decide) rfl ⟨rfl, rfl, rfl, rfl⟩ rfl (k_hld (o := 3) (Or.inl rfl) hH hB h21 bu bv bz nuv nvz nuz (fun z24 h24 => ⟨_, rfl, ?_⟩))
      refine xif_ne 30 ⟨u29, _, rfl⟩ rfl (fun c27 => ?_) (fun c27 => ?_)
      · refine xinc 35 (1) ⟨u29, _, rfl⟩ rfl rfl rfl (by decide) (by omega) (by omega) (fun z32 h32 => ?_)
        refine xgoto ⟨u29, _, rfl⟩ ?_
        exact ih (t + 1) (n + 1) _ (by omega) (by omega) q6 (by rw [q9, if_pos (by omega)]; omega)
      · refine xcst 31 (0) ⟨u29, _, rfl⟩ rfl (by decide) (fun z30 h30 => ?_)
        exact xretB ⟨u29, _, rfl⟩ rfl (by omega) (hR _ (by rw [tkV_n (tk_no hn q6 (by rw [q9, if_neg (by omega)]; omega))]; omega))
theorem k_29E {d V x : Nat} {T : sT} {hp : amH} {R : xQ} {a : Int32} (hH : bHk 84 bTT hp) (hB : bdOk hp 3 V T) (hL : lsN hp 3 T 225) (ha : a.toInt = (x : Int)) (hx : x < V)
    (hR : ∀ z : Int32, z.toInt = tkV V x T → R (.inl (some (.int z))) hp) : xK (d + 3) 29 [.ref 3, .int a] hp R := by
  refine xin (M := am_m29) rfl rfl rfl ?_
  refine xcst 1 (0) ⟨u29, _, rfl⟩ rfl (by decide) (fun z0 h0 => ?_)
  refine xist 2 ⟨u29, _, rfl⟩ rfl rfl ?_
  exact l29E hH hB hL ha hx hR (trL T 225).length 0 0 _ (by omega) (by omega) rfl rfl
theorem l235E {d V x : Nat} {T : sT} {hp : amH} {R : xQ} {a : Int32} (hH : bHk 84 bTT hp) (hP : P0 hp) (hB : rdOk hp V T) (hL : rlN hp T 225) (ha : a.toInt = (x : Int)) (hx : x < V)
    (hR : ∀ z : Int32, z.toInt = tkV V x T → R (.inl (some (.int z))) hp) :
    ∀ (jj t m : Nat) (w wt : Int32), wt.toInt = (t : Int) → t + jj = (trL T 225).length → (trL T m).length = t → ((w.toInt = 1 ∧ hC (tn V x) T m = t) ∨ (w.toInt = 0 ∧ hC (tn V x) T m < t)) → xV (d + 2) am_m235 4 [some (.ref 66), some (.int a), some (.int w), some (.int wt)] [] hp R := by
  have hT := hB.2.1
  have b1 : rN hp 66 12 = (((trL T 225).length : Nat) : Int) := hL.1
  have hV := hT.2.1
  have l35 := trL_35 hT 225
  have hs := sPm_tn hx
  intro jj
  induction jj with
  | zero =>
    intro t m w wt hwt hj hm hw
    have eC : hC (tn V x) T m = hC (tn V x) T 225 := hC_eq (by omega)
    refine xild 5 ⟨u235, _, rfl⟩ rfl rfl ?_
    refine xald 6 ⟨u235, _, rfl⟩ rfl rfl ?_
    refine xgetI 9 hH ⟨u235, _, rfl⟩ rfl rfl (fun z6 h6 => ?_)
    refine xcmp_ge 12 ⟨u235, _, rfl⟩ rfl (fun c9 => ?_) (fun c9 => ?_)
    · refine xild 69 ⟨u235, _, rfl⟩ rfl rfl ?_
      rcases hw with ⟨hw, he⟩ | ⟨hw, he⟩
      · exact xretB ⟨u235, _, rfl⟩ rfl (Or.inr hw) (hR _ (by rw [tkV_y (by omega)]; exact hw))
      · exact xretB ⟨u235, _, rfl⟩ rfl (Or.inl hw) (hR _ (by rw [tkV_n (by omega)]; exact hw))
    · omega
  | succ jj ih =>
    intro t m w wt hwt hj hm hw
    obtain ⟨n, u, v, z, q1, q2, q3, q4, q5, -, -, q0, q6, -, -, q9⟩ := mv_next hT hs (t := t) (by omega) hm
    have hn : n < 225 := by have := (trL_get 225 t (by omega)).2.1; rw [q0] at this; exact this
    have bu := hs.1 u (by omega)
    have bv := hs.1 v (by omega)
    have bz := hs.1 z (by omega)
    have nuv : ¬ tn V x u = tn V x v := fun k => by have := hs.2.1 _ _ (by omega) (by omega) k; omega
    have nvz : ¬ tn V x v = tn V x z := fun k => by have := hs.2.1 _ _ (by omega) (by omega) k; omega
    have nuz : ¬ tn V x u = tn V x z := fun k => by have := hs.2.1 _ _ (by omega) (by omega) k; omega
    obtain ⟨o1, o2, o3⟩ := rl_at hT hL (t := t) (by omega) q1 q2 q3
    refine xild 5 ⟨u235, _, rfl⟩ rfl rfl ?_
    refine xald 6 ⟨u235, _, rfl⟩ rfl rfl ?_
    refine xgetI 9 hH ⟨u235, _, rfl⟩ rfl rfl (fun z6 h6 => ?_)
    refine xcmp_ge 12 ⟨u235, _, rfl⟩ rfl (fun c9 => ?_) (fun c9 => ?_)
    · omega
    · refine xild 13 ⟨u235, _, rfl⟩ rfl rfl ?_
      refine xif_eq 16 ⟨u235, _, rfl⟩ rfl (fun c13 => ?_) (fun c13 => ?_)
      · refine xcst 61 (0) ⟨u235, _, rfl⟩ rfl (by decide) (fun z60 h60 => ?_)
        refine xist 62 ⟨u235, _, rfl⟩ rfl rfl ?_
        refine xinc 65 (1) ⟨u235, _, rfl⟩ rfl rfl rfl (by decide) (by omega) (by omega) (fun z62 h62 => ?_)
        refine xgoto ⟨u235, _, rfl⟩ ?_
        refine ih (t + 1) (n + 1) _ _ (by omega) (by omega) q6 (Or.inr ⟨by omega, ?_⟩)
        rw [q9]
        split <;> omega
      · refine xald 17 ⟨u235, _, rfl⟩ rfl rfl ?_
        refine xald 18 ⟨u235, _, rfl⟩ rfl rfl ?_
        refine xald 19 ⟨u235, _, rfl⟩ rfl rfl ?_
        refine xgetR 22 72 hH ⟨u235, _, rfl⟩ rfl rfl ?_
        refine xild 23 ⟨u235, _, rfl⟩ rfl rfl ?_
        refine xiald 24 (wt).toInt.toNat hH ⟨u235, _, rfl⟩ rfl (by decide) rfl (by omega) (by omega) (fun z23 h23 => ?_)
        refine xild 25 ⟨u235, _, rfl⟩ rfl rfl ?_
        refine xcall 28 [.ref 66, .int _, .int _] [.ref 66] hH ⟨u235, _, rfl⟩ rfl rfl rfl rfl rfl (k_rtrn hH hP hB (x := u) (k := x) (by rw [h23, show wt.toInt.toNat = t by omega]; exact o1) ha (by omega) hx (fun z25 h25 => ⟨_, rfl, ?_⟩))
        have h25 : z25.toInt = ((tn V x u : Nat) : Int) := h25
        refine xald 29 ⟨u235, _, rfl⟩ rfl rfl ?_
        refine xald 30 ⟨u235, _, rfl⟩ rfl rfl ?_
        refine xgetR 33 73 hH ⟨u235, _, rfl⟩ rfl rfl ?_
        refine xild 34 ⟨u235, _, rfl⟩ rfl rfl ?_
        refine xiald 35 (wt).toInt.toNat hH ⟨u235, _, rfl⟩ rfl (by decide) rfl (by omega) (by omega) (fun z34 h34 => ?_)
        refine xild 36 ⟨u235, _, rfl⟩ rfl rfl ?_
        refine xcall 39 [.ref 66, .int _, .int _] [.int _, .ref 66] hH ⟨u235, _, rfl⟩ rfl rfl rfl rfl rfl (k_rtrn hH hP hB (x := v) (k := x) (by rw [h34, show wt.toInt.toNat = t by omega]; exact o2) ha (by omega) hx (fun z36 h36 => ⟨_, rfl, ?_⟩))
        have h36 : z36.toInt = ((tn V x v : Nat) : Int) := h36
        refine xcall 42 [.ref 66, .int _, .int _] [] hH ⟨u235, _, rfl⟩ rfl rfl rfl rfl rfl (k_third hH (by omega) (by omega) (by omega) (by omega) (fun z39 h39 => ⟨_, rfl, ?_⟩))
        have h39 : z39.toInt = T (tn V x u) (tn V x v) := by
          rw [h39, show z25.toInt.toNat = tn V x u by omega, show z36.toInt.toNat = tn V x v by omega]
          exact hB.2.2.1 _ _ (by omega) (by omega)
        refine xald 43 ⟨u235, _, rfl⟩ rfl rfl ?_
        refine xald 44 ⟨u235, _, rfl⟩ rfl rfl ?_
        refine xgetR 47 74 hH ⟨u235, _, rfl⟩ rfl rfl ?_
        refine xild 48 ⟨u235, _, rfl⟩ rfl rfl ?_
        refine xiald 49 (wt).toInt.toNat hH ⟨u235, _, rfl⟩ rfl (by decide) rfl (by omega) (by omega) (fun z48 h48 => ?_)
        refine xild 50 ⟨u235, _, rfl⟩ rfl rfl ?_
        refine xcall 53 [.ref 66, .int _, .int _] [.int _] hH ⟨u235, _, rfl⟩ rfl rfl rfl rfl rfl (k_rtrn hH hP hB (x := z) (k := x) (by rw [h48, show wt.toInt.toNat = t by omega]; exact o3) ha (by omega) hx (fun z50 h50 => ⟨_, rfl, ?_⟩))
        have h50 : z50.toInt = ((tn V x z : Nat) : Int) := h50
        refine xcmp_ne 56 ⟨u235, _, rfl⟩ rfl (fun c53 => ?_) (fun c53 => ?_)
        · refine xcst 61 (0) ⟨u235, _, rfl⟩ rfl (by decide) (fun z60 h60 => ?_)
          refine xist 62 ⟨u235, _, rfl⟩ rfl rfl ?_
          refine xinc 65 (1) ⟨u235, _, rfl⟩ rfl rfl rfl (by decide) (by omega) (by omega) (fun z62 h62 => ?_)
          refine xgoto ⟨u235, _, rfl⟩ ?_
          refine ih (t + 1) (n + 1) _ _ (by omega) (by omega) q6 (Or.inr ⟨by omega, ?_⟩)
          rw [q9]
          split <;> omega
        · refine xcst 57 (1) ⟨u235, _, rfl⟩ rfl (by decide) (fun z56 h56 => ?_)
          refine xgoto ⟨u235, _, rfl⟩ ?_
          refine xist 62 ⟨u235, _, rfl⟩ rfl rfl ?_
          refine xinc 65 (1) ⟨u235, _, rfl⟩ rfl rfl rfl (by decide) (by omega) (by omega) (fun z62 h62 => ?_)
          refine xgoto ⟨u235, _, rfl⟩ ?_
          refine ih (t + 1) (n + 1) _ _ (by omega) (by omega) q6 (Or.inl ⟨by omega, ?_⟩)
          rw [q9, if_pos (by omega)]
          omega
theorem k_235E {d V x : Nat} {T : sT} {hp : amH} {R : xQ} {a : Int32} (hH : bHk 84 bTT hp) (hP : P0 hp) (hB : rdOk hp V T) (hL : rlN hp T 225) (ha : a.toInt = (x : Int)) (hx : x < V)
    (hR : ∀ z : Int32, z.toInt = tkV V x T → R (.inl (some (.int z))) hp) : xK (d + 2) 235 [.ref 66, .int a] hp R := by
  refine xin (M := am_m235) rfl rfl rfl ?_
  refine xcst 1 (1) ⟨u235, _, rfl⟩ rfl (by decide) (fun z0 h0 => ?_)
  refine xist 2 ⟨u235, _, rfl⟩ rfl rfl ?_
  refine xcst 3 (0) ⟨u235, _, rfl⟩ rfl (by decide) (fun z2 h2 => ?_)
  refine xist 4 ⟨u235, _, rfl⟩ rfl rfl ?_
  exact l235E hH hP hB hL ha hx hR (trL T 225).length 0 0 _ _ (by omega) (by omega) rfl (Or.inl ⟨by omega, rfl⟩)
