/-! ===== the class swaps two points ===== -/
/-- how many triples numbered below n are led to triples that are there -/
def hC (σ : Nat → Nat) (T : sT) : Nat → Nat
  | 0 => 0
  | n + 1 => hC σ T n + (if trB T n = true ∧ T (σ (n / 15)) (σ (n % 15)) = ((σ (T (n / 15) (n % 15)).toNat : Nat) : Int) then 1 else 0)
theorem hC_len {σ : Nat → Nat} {T : sT} {n : Nat} : ∀ k, (trL T (n + k)).length = (trL T n).length → hC σ T (n + k) = hC σ T n
  | 0, _ => rfl
  | k + 1, h => by
    have e : (trL T (n + (k + 1))) = (if trB T (n + k) = true then trL T (n + k) ++ [n + k] else trL T (n + k)) := rfl
    have m := trL_mono (T := T) n k
    rw [e] at h
    split at h
    · rw [List.length_append, List.length_singleton] at h
      omega
    · next g =>
      have ih := hC_len (σ := σ) k h
      show hC σ T (n + k) + (if _ then 1 else 0) = _
      rw [if_neg (fun z => g z.1)]
      exact ih
theorem hC_eq {σ : Nat → Nat} {T : sT} {n m : Nat} (h : (trL T n).length = (trL T m).length) : hC σ T n = hC σ T m := by
  rcases Nat.le_total n m with g | g
  · obtain ⟨k, rfl⟩ := Nat.exists_eq_add_of_le g
    exact (hC_len k h.symm).symm
  · obtain ⟨k, rfl⟩ := Nat.exists_eq_add_of_le g
    exact hC_len k h
/-- the next triple led -/
theorem mv_next {V : Nat} {T : sT} {σ : Nat → Nat} (hT : sOk V T) (hs : sPm V σ) {t m : Nat} (ht : t < (trL T 225).length) (hm : (trL T m).length = t) : ∃ n x y z : Nat, mN T t = m3 x y z ∧ x < y ∧ y < z ∧ z < V ∧ T x y = (z : Int) ∧ n / 15 = x ∧ n % 15 = y ∧ (trL T 225).getD t 0 = n ∧ (trL T (n + 1)).length = t + 1 ∧ pG σ T (n + 1) = sPut (pG σ T m) (σ x) (σ y) (σ z) ∧ sFree (pG σ T m) (σ x) (σ y) (σ z) ∧ hC σ T (n + 1) = hC σ T m + (if T (σ x) (σ y) = ((σ z : Nat) : Int) then 1 else 0) := by
  obtain ⟨n, x, y, z, k1, k2, k3, k4, k5, k6, k7, k8, k9, k10, k11, k12⟩ := pG_next hT hs ht hm
  obtain ⟨g1, g2, g3⟩ := trL_get 225 t ht
  rw [k1] at g1 g3
  have e : hC σ T n = hC σ T m := hC_eq (g3.trans hm.symm)
  refine ⟨n, x, y, z, by unfold mN; rw [k1]; exact k5, k6, k7, k8, k4, k2, k3, k1, k10, k11, k12, ?_⟩
  show hC σ T n + (if trB T n = true ∧ T (σ (n / 15)) (σ (n % 15)) = ((σ (T (n / 15) (n % 15)).toNat : Nat) : Int) then 1 else 0) = _
  rw [e, k2, k3, k4, Int.toNat_natCast]
  by_cases h : T (σ x) (σ y) = ((σ z : Nat) : Int)
  · rw [if_pos ⟨g1, h⟩, if_pos h]
  · rw [if_neg (fun w => h w.2), if_neg h]
theorem u167 : bUp 0 am_m167.1 = true := by decide +kernel
theorem l167E {d V x y : Nat} {T : sT} {hp0 : amH} {R : xQ} {a b : Int32} (hB0 : bdOk hp0 3 V T) (hL0 : lsN hp0 3 T 225) (ha : a.toInt = (x : Int)) (hb : b.toInt = (y : Int)) (hx : x < V) (hy : y < V) (hxy : ¬ x = y)
    (hQ : ∀ (w wt : Int32) (v5 : Option Value) hp1, bHk 84 bTT hp1 → bFx [9, 11] hp0 hp1 → bdOk hp1 8 V (pG (sw x y) T 225) → w.toInt + ((hC (sw x y) T 225 : Nat) : Int) = (((trL T 225).length : Nat) : Int) → xV (d + 6) am_m167 92 [some (.ref 0), some (.int a), some (.int b), some (.int w), some (.int wt), v5] [] hp1 R) :
    ∀ (jj t m : Nat) (w wt : Int32) (v5 : Option Value) (hp : amH), wt.toInt = (t : Int) → t + jj = (trL T 225).length → (trL T m).length = t → bHk 84 bTT hp → bFx [9, 11] hp0 hp → bdOk hp 8 V (pG (sw x y) T m) → w.toInt + ((hC (sw x y) T m : Nat) : Int) = (t : Int) → 0 ≤ w.toInt → xV (d + 6) am_m167 29 [some (.ref 0), some (.int a), some (.int b), some (.int w), some (.int wt), v5] [] hp R := by
  have hT := hB0.2.1
  have hV := hT.2.1
  have l35 := trL_35 hT 225
  have hs := sPm_sw (V := V) hx hy
  intro jj
  induction jj with
  | zero =>
    intro t m w wt v5 hp hwt hj hm hH hF hB hw hge
    have e1 : rN hp 3 1 = rN hp0 3 1 := bFx_n hF (by simp)
    have L1 := hL0.1
    have eT : pG (sw x y) T m = pG (sw x y) T 225 := pG_eq (by omega)
    have eC : hC (sw x y) T m = hC (sw x y) T 225 := hC_eq (by omega)
    rw [eT] at hB
    rw [eC] at hw
    refine xild2 31 ⟨u167, _, rfl⟩ rfl rfl ?_
    refine xald 32 ⟨u167, _, rfl⟩ rfl rfl ?_
    refine xgetD 35 (3) hH ⟨u167, _, rfl⟩ rfl (by decide) (by decide) rfl rfl (by decide) ?_
    refine xgetC 38 hH ⟨u167, _, rfl⟩ rfl (by decide) (by decide) rfl rfl (by decide) (fun z35 h35 => ?_)
    refine xcmp_ge 41 ⟨u167, _, rfl⟩ rfl (fun c38 => ?_) (fun c38 => ?_)
    · exact hQ _ _ _ hp hH hF hB (by omega)
    · omega
  | succ jj ih =>
    intro t m w wt v5 hp hwt hj hm hH hF hB hw hge
    have e1 : rN hp 3 1 = rN hp0 3 1 := bFx_n hF (by simp)
    have L1 := hL0.1
    have hL : lsN hp 3 T 225 := lsN_fr hL0 (bFx_n hF (by simp)) (fun _ => bFx_n hF (by simp)) (fun _ => bFx_n hF (by simp))
    have hB3 : bdOk hp 3 V T := bdOk_fr hB0 (bFx_n hF (by simp)) (fun _ => bFx_n hF (by simp)) (fun _ => bFx_n hF (by simp))
    obtain ⟨n, u, v, z, q1, q2, q3, q4, q5, -, -, -, q6, q7, q8, q9⟩ := mv_next hT hs (t := t) (by omega) hm
    have ml := (mN_lt hT (show t < (trL T 225).length by omega)).1
    have ex := ex_m3 (a := x) (b := y) (x := u) (y := v) (z := z) hxy (by omega) (by omega) (by omega)
    have bu := hs.1 u (by omega)
    have bv := hs.1 v (by omega)
    have bz := hs.1 z (by omega)
    have nuv : ¬ sw x y u = sw x y v := fun k => by have := hs.2.1 _ _ (by omega) (by omega) k; omega
    have nvz : ¬ sw x y v = sw x y z := fun k => by have := hs.2.1 _ _ (by omega) (by omega) k; omega
    have nuz : ¬ sw x y u = sw x y z := fun k => by have := hs.2.1 _ _ (by omega) (by omega) k; omega
    refine xild2 31 ⟨u167, _, rfl⟩ rfl rfl ?_
    refine xald 32 ⟨u167, _, rfl⟩ rfl rfl ?_
    refine xgetD 35 (3) hH ⟨u167, _, rfl⟩ rfl (by decide) (by decide) rfl rfl (by decide) ?_
    refine xgetC 38 hH ⟨u167, _, rfl⟩ rfl (by decide) (by decide) rfl rfl (by decide) (fun z35 h35 => ?_)
    refine xcmp_ge 41 ⟨u167, _, rfl⟩ rfl (fun c38 => ?_) (fun c38 => ?_)
    · omega
    · refine xald 42 ⟨u167, _, rfl⟩ rfl rfl ?_
      refine xgetD 45 (3) hH ⟨u167, _, rfl⟩ rfl (by decide) (by decide) rfl rfl (by decide) ?_
      refine xild2 47 ⟨u167, _, rfl⟩ rfl rfl ?_
      refine xcallC 50 (o := 3) [.int _] [] hH ⟨u167, _, rfl⟩ rfl rfl (by decide) rfl (by decide) rfl ⟨rfl, rfl, rfl, rfl⟩ rfl (k_setL hH hL (t := t) (by omega) (by omega) (fun z47 h47 => ⟨_, rfl, ?_⟩))
      refine xild 51 ⟨u167, _, rfl⟩ rfl rfl ?_
      refine xild 52 ⟨u167, _, rfl⟩ rfl rfl ?_
      refine xcallS 55 [.int _, .int _, .int _] [] hH ⟨u167, _, rfl⟩ rfl rfl rfl rfl rfl (k_exch hH h47 ml ha hb (by omega) (by omega) (fun z52 h52 => ⟨_, rfl, ?_⟩))
      rw [q1, ex] at h52
      refine xist2 57 ⟨u167, _, rfl⟩ rfl rfl ?_
      refine xald 58 ⟨u167, _, rfl⟩ rfl rfl ?_
      refine xgetD 61 (8) hH ⟨u167, _, rfl⟩ rfl (by decide) (by decide) rfl rfl (by decide) ?_
      refine xild2 63 ⟨u167, _, rfl⟩ rfl rfl ?_
      refine xcallC 66 (o := 8) [.int _] [] hH ⟨u167, _, rfl⟩ rfl rfl (by decide) rfl (by decide) rfl ⟨rfl, rfl, rfl, rfl⟩ rfl (k_bputU (o := 8) (Or.inr rfl) hH hB h52 bu bv bz nuv nvz nuz q8 (fun hp63 hH63 F63 B63 => ⟨_, rfl, ?_⟩))
      have B3 : bdOk hp63 3 V T := bdOk_fr hB3 (bFx_n F63 (by simp)) (fun _ => bFx_n F63 (by simp)) (fun _ => bFx_n F63 (by simp))
      refine xild 67 ⟨u167, _, rfl⟩ rfl rfl ?_
      refine xald 68 ⟨u167, _, rfl⟩ rfl rfl ?_
      refine xgetD 71 (3) hH63 ⟨u167, _, rfl⟩ rfl (by decide) (by decide) rfl rfl (by decide) ?_
      refine xild2 73 ⟨u167, _, rfl⟩ rfl rfl ?_
      refine xcallC 76 (o := 3) [.int _] [.int _] hH63 ⟨u167, _, rfl⟩ rfl rfl (by decide) rfl (by decide) rfl ⟨rfl, rfl, rfl, rfl⟩ rfl (k_hld (o := 3) (Or.inl rfl) hH63 B3 h52 bu bv bz nuv nvz nuz (fun z73 h73 => ⟨_, rfl, ?_⟩))
      refine xif_eq 79 ⟨u167, _, rfl⟩ rfl (fun c76 => ?_) (fun c76 => ?_)
      · refine xcst 84 (1) ⟨u167, _, rfl⟩ rfl (by decide) (fun z83 h83 => ?_)
        refine xadd 85 _ ⟨u167, _, rfl⟩ rfl rfl (by omega) (by omega) (fun z84 h84 => ?_)
        refine xist 86 ⟨u167, _, rfl⟩ rfl rfl ?_
        refine xinc 89 (1) ⟨u167, _, rfl⟩ rfl rfl rfl (by decide) (by omega) (by omega) (fun z86 h86 => ?_)
        refine xgoto ⟨u167, _, rfl⟩ ?_
        have hc : hC (sw x y) T (n + 1) = hC (sw x y) T m + 0 := by
          rw [q9, if_neg (by omega)]
        exact ih (t + 1) (n + 1) _ _ _ hp63 (by omega) (by omega) q6 hH63 (hF.trans (F63.mono (by simp))) (by rw [q7]; exact B63) (by rw [hc]; omega) (by omega)
      · refine xcst 80 (0) ⟨u167, _, rfl⟩ rfl (by decide) (fun z79 h79 => ?_)
        refine xgoto ⟨u167, _, rfl⟩ ?_
        refine xadd 85 _ ⟨u167, _, rfl⟩ rfl rfl (by omega) (by omega) (fun z84 h84 => ?_)
        refine xist 86 ⟨u167, _, rfl⟩ rfl rfl ?_
        refine xinc 89 (1) ⟨u167, _, rfl⟩ rfl rfl rfl (by decide) (by omega) (by omega) (fun z86 h86 => ?_)
        refine xgoto ⟨u167, _, rfl⟩ ?_
        have hc : hC (sw x y) T (n + 1) = hC (sw x y) T m + 1 := by
          rw [q9, if_pos (by omega)]
        exact ih (t + 1) (n + 1) _ _ _ hp63 (by omega) (by omega) q6 hH63 (hF.trans (F63.mono (by simp))) (by rw [q7]; exact B63) (by rw [hc]; omega) (by omega)
theorem k_167E {d V n : Nat} {h : Nat → sR} {sv : Option sR} {T : sT} {ty : Nat → Int} {hp : amH} {R : xQ} {a b : Int32} (hH : bHk 84 bTT hp) (hS : clS hp (V, T, ty) n h sv)
    (hT : ∀ E, ¬ gTwo V a.toInt b.toInt = 0 → exE (gTwo V a.toInt b.toInt) E → R (.inr E) hp)
    (hR : ∀ (z : Int32) hp1, bHk 84 bTT hp1 → cF hp hp1 → gTwo V a.toInt b.toInt = 0 → clS hp1 (V, pG (sw a.toInt.toNat b.toInt.toNat) T 225, ty) (pM n + 1) (pH n h (V, T, ty)) sv → z.toInt + ((hC (sw a.toInt.toNat b.toInt.toNat) T 225 : Nat) : Int) = (((trL T 225).length : Nat) : Int) → R (.inl (some (.int z))) hp1) : xK (d + 7) 167 [.ref 0, .int a, .int b] hp R := by
  have hB : bdOk hp 3 V T := hS.1
  have hV := hB.2.1.2.1
  have hV3 := hB.2.1.1
  refine xin (M := am_m167) rfl rfl rfl ?_
  refine xald 1 ⟨u167, _, rfl⟩ rfl rfl ?_
  refine xild 2 ⟨u167, _, rfl⟩ rfl rfl ?_
  refine xild 3 ⟨u167, _, rfl⟩ rfl rfl ?_
  refine xcallT 6 (o := 0) [.int _, .int _] [] hH ⟨u167, _, rfl⟩ rfl rfl (by decide) rfl (by decide) rfl ⟨rfl, rfl, rfl, rfl⟩ rfl (k_rq2 hH hB.1 (fun g3 => Or.inl ⟨_, rfl, ?_⟩) (fun g3 => Or.inr ⟨_, rfl, rfl, hT 1 (by omega) (Or.inl ⟨g3, rfl⟩)⟩) (fun g3 => Or.inr ⟨_, rfl, rfl, hT 0 (by omega) (Or.inr (Or.inl ⟨g3, rfl⟩))⟩))
  have k3 := gTwo_0.mp g3
  refine xald 7 ⟨u167, _, rfl⟩ rfl rfl ?_
  refine xcallC 10 (o := 0) [] [] hH ⟨u167, _, rfl⟩ rfl rfl (by decide) rfl (by decide) rfl ⟨rfl, rfl, rfl, rfl⟩ rfl (k_cmS hH hS (fun hp7 hH7 F7 S7 => ⟨_, rfl, ?_⟩))
  have bV7 : rN hp7 3 0 = (V : Int) := S7.1.1
  refine xald 11 ⟨u167, _, rfl⟩ rfl rfl ?_
  refine xgetD 14 (8) hH7 ⟨u167, _, rfl⟩ rfl (by decide) (by decide) rfl rfl (by decide) ?_
  refine xald 15 ⟨u167, _, rfl⟩ rfl rfl ?_
  refine xgetD 18 (3) hH7 ⟨u167, _, rfl⟩ rfl (by decide) (by decide) rfl rfl (by decide) ?_
  refine xgetC 21 hH7 ⟨u167, _, rfl⟩ rfl (by decide) (by decide) rfl rfl (by decide) (fun z18 h18 => ?_)
  refine xcallC 24 (o := 8) [.int _] [] hH7 ⟨u167, _, rfl⟩ rfl rfl (by decide) rfl (by decide) rfl ⟨rfl, rfl, rfl, rfl⟩ rfl (k_rst (o := 8) (V := V) (Or.inr rfl) hH7 (by omega) hV3 hV (fun hp21 hH21 F21 B21 z21 => ⟨_, rfl, ?_⟩))
  have S21 : clS hp21 (V, T, ty) (pM n + 1) (pH n h (V, T, ty)) sv := clS_8 S7 (fun c k hc => F21 c k (by simp; omega))
  refine xcst 25 (0) ⟨u167, _, rfl⟩ rfl (by decide) (fun z24 h24 => ?_)
  refine xist 26 ⟨u167, _, rfl⟩ rfl rfl ?_
  refine xcst 27 (0) ⟨u167, _, rfl⟩ rfl (by decide) (fun z26 h26 => ?_)
  refine xist2 29 ⟨u167, _, rfl⟩ rfl rfl ?_
  refine xpad 1 ?_
  refine l167E (V := V) (T := T) (x := a.toInt.toNat) (y := b.toInt.toNat) (R := R) S21.1 S21.2.1 (by omega) (by omega) (by omega) (by omega) (by omega) (fun w wt v5 hp1 hH1 F1 B1 e1 => ?_) (trL T 225).length 0 0 _ _ _ hp21 (by omega) (by omega) rfl hH21 bFx.refl B21 (by rw [h24]; rfl) (by omega)
  have S1 : clS hp1 (V, T, ty) (pM n + 1) (pH n h (V, T, ty)) sv := clS_8 S21 (fun c k hc => F1 c k (by simp; omega))
  refine xald 93 ⟨u167, _, rfl⟩ rfl rfl ?_
  refine xgetD 96 (3) hH1 ⟨u167, _, rfl⟩ rfl (by decide) (by decide) rfl rfl (by decide) ?_
  refine xald 97 ⟨u167, _, rfl⟩ rfl rfl ?_
  refine xgetD 100 (8) hH1 ⟨u167, _, rfl⟩ rfl (by decide) (by decide) rfl rfl (by decide) ?_
  refine xcallC 103 (o := 3) [.ref 8] [] hH1 ⟨u167, _, rfl⟩ rfl rfl (by decide) rfl (by decide) rfl ⟨rfl, rfl, rfl, rfl⟩ rfl (k_cpB (o := 3) (o2 := 8) (Or.inl rfl) (Or.inr rfl) (by decide) hH1 B1 (fun hp100 hH100 F100 B100 n100 => ⟨_, rfl, ?_⟩))
  refine xald 104 ⟨u167, _, rfl⟩ rfl rfl ?_
  refine xcallC 107 (o := 0) [] [] hH100 ⟨u167, _, rfl⟩ rfl rfl (by decide) rfl (by decide) rfl ⟨rfl, rfl, rfl, rfl⟩ rfl (k_stS hH100 (V := V) (T := pG (sw a.toInt.toNat b.toInt.toNat) T 225) (ty := ty) B100 (fun i hi => (bFx_n F100 (by simp)).trans (S1.2.2.2.1 i hi)) (hyC_fr S1.2.2.2.2 (fun c k c1 c2 => F100 c k (by simp; omega))) (fun hp104 hH104 F104 S104 => ⟨_, rfl, ?_⟩))
  refine xild 108 ⟨u167, _, rfl⟩ rfl rfl ?_
  exact xret ⟨u167, _, rfl⟩ rfl (hR _ _ hH104 ((cF_hy F7).trans ((cF_x F21 (by simp)).trans ((cF_x F1 (by simp)).trans ((cF_x F100 (by simp)).trans (cF_x F104 (by simp)))))) g3 S104 e1)
