/-! ##### 19.m.062.36h ##### -/
section
/-! ===== the triples that meet a set dropped ===== -/
/-- the triples numbered below n that B says taken -/
noncomputable def dP (B : Nat → Bool) (T : sT) : Nat → sT
  | 0 => T
  | n + 1 => if trB T n = true ∧ B n = true then sTake (dP B T n) (n / 15) (n % 15) (T (n / 15) (n % 15)).toNat else dP B T n
theorem dP_len {B : Nat → Bool} {T : sT} {n : Nat} : ∀ k, (trL T (n + k)).length = (trL T n).length → dP B T (n + k) = dP B T n
  | 0, _ => rfl
  | k + 1, h => by
    have e : (trL T (n + (k + 1))) = (if trB T (n + k) = true then trL T (n + k) ++ [n + k] else trL T (n + k)) := rfl
    have m := trL_mono (T := T) n k
    rw [e] at h
    split at h
    · rw [List.length_append, List.length_singleton] at h
      omega
    · next g =>
      have e2 : dP B T (n + (k + 1)) = dP B T (n + k) := by
        show (if _ then _ else _) = _
        rw [if_neg (fun z => g z.1)]
        rfl
      rw [e2]
      exact dP_len k h
theorem dP_eq {B : Nat → Bool} {T : sT} {n m : Nat} (h : (trL T n).length = (trL T m).length) : dP B T n = dP B T m := by
  rcases Nat.le_total n m with g | g
  · obtain ⟨k, rfl⟩ := Nat.exists_eq_add_of_le g
    exact (dP_len k h.symm).symm
  · obtain ⟨k, rfl⟩ := Nat.exists_eq_add_of_le g
    exact dP_len k h
/-- what is left -/
theorem dP_s {V : Nat} {B : Nat → Bool} {T : sT} (hT : sOk V T) : ∀ n, sOk V (dP B T n) ∧ ∀ u v, (dP B T n u v = -1 ∧ (T u v = -1 ∨ (cd T u v < n ∧ B (cd T u v) = true))) ∨ (dP B T n u v = T u v ∧ ¬ T u v = -1 ∧ ¬ (cd T u v < n ∧ B (cd T u v) = true))
  | 0 => ⟨hT, fun u v => by
    by_cases h : T u v = -1
    · exact Or.inl ⟨h, Or.inl h⟩
    · exact Or.inr ⟨rfl, h, by omega⟩⟩
  | n + 1 => by
    obtain ⟨i1, i2⟩ := dP_s hT n
    by_cases hb : trB T n = true ∧ B n = true
    · obtain ⟨z, ez, h1, h2, h3⟩ := tr_pts hT hb.1
      have e : dP B T (n + 1) = sTake (dP B T n) (n / 15) (n % 15) z := by
        show (if _ then _ else _) = _
        rw [if_pos hb, ez, Int.toNat_natCast]
      have q := fun u v hp => cd_pr hT (u := u) (v := v) hb.1 hp
      rw [ez, Int.toNat_natCast] at q
      have en : dP B T n (n / 15) (n % 15) = (z : Int) := by
        have c := (q (n / 15) (n % 15) ⟨by omega, by omega, by omega⟩).2.2
        rcases i2 (n / 15) (n % 15) with g | g
        · rcases g.2 with k | k
          · omega
          · omega
        · exact g.1.trans ez
      rw [e]
      refine ⟨sOk_take i1 en, fun u v => ?_⟩
      by_cases hp : sPr (n / 15) (n % 15) z u v
      · have c := q u v hp
        refine Or.inl ⟨by unfold sTake; rw [if_pos hp], Or.inr ⟨by omega, by rw [c.2.2]; exact hb.2⟩⟩
      · have s : sTake (dP B T n) (n / 15) (n % 15) z u v = dP B T n u v := by unfold sTake; rw [if_neg hp]
        rw [s]
        rcases i2 u v with g | g
        · exact Or.inl ⟨g.1, g.2.imp id (fun k => ⟨by omega, k.2⟩)⟩
        · refine Or.inr ⟨g.1, g.2.1, fun k => g.2.2 ⟨?_, k.2⟩⟩
          have c := (cd_of hT g.2.1).2.2
          by_cases w : cd T u v = n
          · rw [w, ez, Int.toNat_natCast] at c
            exact absurd c hp
          · omega
    · have e : dP B T (n + 1) = dP B T n := by
        show (if _ then _ else _) = _
        rw [if_neg hb]
      rw [e]
      refine ⟨i1, fun u v => ?_⟩
      rcases i2 u v with g | g
      · exact Or.inl ⟨g.1, g.2.imp id (fun k => ⟨by omega, k.2⟩)⟩
      · refine Or.inr ⟨g.1, g.2.1, fun k => g.2.2 ⟨?_, k.2⟩⟩
        by_cases w : cd T u v = n
        · exact absurd ⟨by rw [← w]; exact (cd_of hT g.2.1).1, by rw [← w]; exact k.2⟩ hb
        · omega
theorem dP_next {V : Nat} {B : Nat → Bool} {T : sT} (hT : sOk V T) {t m : Nat} (ht : t < (trL T 225).length) (hm : (trL T m).length = t) : ∃ n x y z : Nat, (trL T 225).getD t 0 = n ∧ mN T t = m3 x y z ∧ x < y ∧ y < z ∧ z < V ∧ (trL T (n + 1)).length = t + 1 ∧ dP B T m x y = (z : Int) ∧ (B n = true → dP B T (n + 1) = sTake (dP B T m) x y z) ∧ (¬ B n = true → dP B T (n + 1) = dP B T m) := by
  obtain ⟨g1, g2, g3⟩ := trL_get 225 t ht
  obtain ⟨z, ez, h1, h2, h3⟩ := tr_pts hT g1
  have em : mN T t = m3 ((trL T 225).getD t 0 / 15) ((trL T 225).getD t 0 % 15) z := by unfold mN mk3; rw [ez, Int.toNat_natCast]
  generalize hn : (trL T 225).getD t 0 = n at *
  have e : dP B T n = dP B T m := dP_eq (g3.trans hm.symm)
  have el : (trL T (n + 1)).length = t + 1 := by rw [trL_add g1, List.length_append, List.length_singleton, g3]
  refine ⟨n, n / 15, n % 15, z, rfl, em, h1, h2, h3, el, ?_, fun hb => ?_, fun hb => ?_⟩
  · rw [← e]
    have c := (cd_pr hT g1 (u := n / 15) (v := n % 15) (by rw [ez, Int.toNat_natCast]; exact ⟨by omega, by omega, by omega⟩)).2.2
    rcases (dP_s (B := B) hT n).2 (n / 15) (n % 15) with g | g
    · rcases g.2 with k | k <;> omega
    · exact g.1.trans ez
  · show (if _ then _ else _) = _
    rw [if_pos ⟨g1, hb⟩, e, ez, Int.toNat_natCast]
  · show (if _ then _ else _) = _
    rw [if_neg (fun k => hb k.2), e]
/-- whether the triple numbered n has c points of the set m -/
noncomputable def mtB (T : sT) (m : Nat) (c : Int) (n : Nat) : Bool := decide (c ≤ bcN (mk3 T n &&& m))
theorem u27 : bUp 0 am_m27.1 = true := by decide +kernel
theorem l27E {d V m : Nat} {T : sT} {hp0 : amH} {R : xQ} {s wc : Int32} (hB0 : bdOk hp0 3 V T) (hL0 : lsN hp0 3 T 225) (hs : s.toInt = (m : Int)) (hm : m < 32768)
    (hR : ∀ (z : Int32) hp1, bHk 84 bTT hp1 → bFx [4, 6] hp0 hp1 → bdOk hp1 3 V (dP (mtB T m wc.toInt) T 225) → z.toInt + (((trL (dP (mtB T m wc.toInt) T 225) 225).length : Nat) : Int) = (((trL T 225).length : Nat) : Int) → R (.inl (some (.int z))) hp1) :
    ∀ (jj t k : Nat) (w wt : Int32) (hp : amH), wt.toInt = (t : Int) → t + jj = (trL T 225).length → (trL T k).length = t → bHk 84 bTT hp → bFx [4, 6] hp0 hp → bdOk hp 3 V (dP (mtB T m wc.toInt) T k) → w.toInt + (((trL (dP (mtB T m wc.toInt) T k) 225).length : Nat) : Int) = (((trL T 225).length : Nat) : Int) → w.toInt ≤ (t : Int) → 0 ≤ w.toInt → xV (d + 3) am_m27 5 [some (.ref 3), some (.int s), some (.int wc), some (.int w), some (.int wt)] [] hp R := by
  have hT := hB0.2.1
  have l35 := trL_35 hT 225
  intro jj
  induction jj with
  | zero =>
    intro t k w wt hp hwt hj hk hH hF hB hw hle hge
    have e1 : rN hp 3 1 = rN hp0 3 1 := bFx_n hF (by simp)
    have L1 := hL0.1
    have eT : dP (mtB T m wc.toInt) T k = dP (mtB T m wc.toInt) T 225 := dP_eq (by omega)
    rw [eT] at hB hw
    refine xild2 7 ⟨u27, _, rfl⟩ rfl rfl ?_
    refine xald 8 ⟨u27, _, rfl⟩ rfl rfl ?_
    refine xgetC 11 hH ⟨u27, _, rfl⟩ rfl (by decide) (by decide) rfl rfl (by decide) (fun z8 h8 => ?_)
    refine xcmp_ge 14 ⟨u27, _, rfl⟩ rfl (fun c11 => ?_) (fun c11 => ?_)
    · refine xild 49 ⟨u27, _, rfl⟩ rfl rfl ?_
      exact xret ⟨u27, _, rfl⟩ rfl (hR _ hp hH hF hB hw)
    · omega
  | succ jj ih =>
    intro t k w wt hp hwt hj hk hH hF hB hw hle hge
    have e1 : rN hp 3 1 = rN hp0 3 1 := bFx_n hF (by simp)
    have L1 := hL0.1
    have hL : lsN hp 3 T 225 := lsN_fr hL0 (bFx_n hF (by simp)) (fun _ => bFx_n hF (by simp)) (fun _ => bFx_n hF (by simp))
    obtain ⟨n, x, y, z, q1, q2, q3, q4, q5, q6, q7, q8, q9⟩ := dP_next (B := mtB T m wc.toInt) hT (t := t) (by omega) hk
    have ml := (mN_lt hT (show t < (trL T 225).length by omega)).1
    have hmt : mtB T m wc.toInt n = true ↔ wc.toInt ≤ bcN (mN T t &&& m) := by
      unfold mtB mN
      rw [decide_eq_true_iff, q1]
    refine xild2 7 ⟨u27, _, rfl⟩ rfl rfl ?_
    refine xald 8 ⟨u27, _, rfl⟩ rfl rfl ?_
    refine xgetC 11 hH ⟨u27, _, rfl⟩ rfl (by decide) (by decide) rfl rfl (by decide) (fun z8 h8 => ?_)
    refine xcmp_ge 14 ⟨u27, _, rfl⟩ rfl (fun c11 => ?_) (fun c11 => ?_)
    · omega
    · refine xald 15 ⟨u27, _, rfl⟩ rfl rfl ?_
      refine xild2 17 ⟨u27, _, rfl⟩ rfl rfl ?_
      refine xcallC 20 (o := 3) [.int _] [] hH ⟨u27, _, rfl⟩ rfl rfl (by decide) rfl (by decide) rfl ⟨rfl, rfl, rfl, rfl⟩ rfl (k_setL hH hL (t := t) (by omega) (by omega) (fun z17 h17 => ⟨_, rfl, ?_⟩))
      refine xild 21 ⟨u27, _, rfl⟩ rfl rfl ?_
      refine xand 22 ⟨u27, _, rfl⟩ rfl ?_
      refine xcallS 25 [.int _] [] hH ⟨u27, _, rfl⟩ rfl rfl rfl rfl rfl (k_bc (i_and h17 hs ml).1 (fun z22 h22 => ⟨_, rfl, ?_⟩))
      refine xild 26 ⟨u27, _, rfl⟩ rfl rfl ?_
      refine xcmp_lt 29 ⟨u27, _, rfl⟩ rfl (fun c26 => ?_) (fun c26 => ?_)
      · refine xinc 45 (1) ⟨u27, _, rfl⟩ rfl rfl rfl (by decide) (by omega) (by omega) (fun z42 h42 => ?_)
        refine xgoto ⟨u27, _, rfl⟩ ?_
        have hb := q9 (fun z => by have := hmt.mp z; omega)
        exact ih (t + 1) (n + 1) _ _ hp (by omega) (by omega) q6 hH hF (by rw [hb]; exact hB) (by rw [hb]; exact hw) (by omega) hge
      · refine xald 30 ⟨u27, _, rfl⟩ rfl rfl ?_
        refine xald 31 ⟨u27, _, rfl⟩ rfl rfl ?_
        refine xild2 33 ⟨u27, _, rfl⟩ rfl rfl ?_
        refine xcallC 36 (o := 3) [.int _] [.ref 3] hH ⟨u27, _, rfl⟩ rfl rfl (by decide) rfl (by decide) rfl ⟨rfl, rfl, rfl, rfl⟩ rfl (k_setL hH hL (t := t) (by omega) (by omega) (fun z33 h33 => ⟨_, rfl, ?_⟩))
        refine xcallC 39 (o := 3) [.int _] [] hH ⟨u27, _, rfl⟩ rfl rfl (by decide) rfl (by decide) rfl ⟨rfl, rfl, rfl, rfl⟩ rfl (k_bdrop (o := 3) (Or.inl rfl) hH hB (by rw [h33, q2]) q3 q4 q7 (fun hp36 hH36 F36 B36 => ⟨_, rfl, ?_⟩))
        refine xinc 42 (1) ⟨u27, _, rfl⟩ rfl rfl rfl (by decide) (by omega) (by omega) (fun z39 h39 => ?_)
        refine xinc 45 (1) ⟨u27, _, rfl⟩ rfl rfl rfl (by decide) (by omega) (by omega) (fun z42 h42 => ?_)
        refine xgoto ⟨u27, _, rfl⟩ ?_
        have lt := len_take hB.2.1 q7
        have hb := q8 (hmt.mpr (by omega))
        exact ih (t + 1) (n + 1) _ _ hp36 (by omega) (by omega) q6 hH36 (hF.trans (F36.mono (by simp))) (by rw [hb]; exact B36) (by rw [hb]; omega) (by omega) (by omega)
theorem k_27E {d V m : Nat} {T : sT} {hp : amH} {R : xQ} {s wc : Int32} (hH : bHk 84 bTT hp) (hB : bdOk hp 3 V T) (hL : lsN hp 3 T 225) (hs : s.toInt = (m : Int)) (hm : m < 32768)
    (hR : ∀ (z : Int32) hp1, bHk 84 bTT hp1 → bFx [4, 6] hp hp1 → bdOk hp1 3 V (dP (mtB T m wc.toInt) T 225) → z.toInt + (((trL (dP (mtB T m wc.toInt) T 225) 225).length : Nat) : Int) = (((trL T 225).length : Nat) : Int) → R (.inl (some (.int z))) hp1) : xK (d + 3) 27 [.ref 3, .int s, .int wc] hp R := by
  refine xin (M := am_m27) rfl rfl rfl ?_
  refine xcst 1 (0) ⟨u27, _, rfl⟩ rfl (by decide) (fun z0 h0 => ?_)
  refine xist 2 ⟨u27, _, rfl⟩ rfl rfl ?_
  refine xcst 3 (0) ⟨u27, _, rfl⟩ rfl (by decide) (fun z2 h2 => ?_)
  refine xist2 5 ⟨u27, _, rfl⟩ rfl rfl ?_
  exact l27E hB hL hs hm hR (trL T 225).length 0 0 _ _ hp (by omega) (by omega) rfl hH bFx.refl hB (by rw [h0]; show (0 : Int) + _ = _; rw [Int.zero_add]; rfl) (by omega) (by omega)
end
/-! ##### 19.m.063.36i ##### -/
section
/-! ===== clear and force: the class ===== -/
theorem u168 : bUp 0 am_m168.1 = true := by decide +kernel
theorem u170 : bUp 0 am_m170.1 = true := by decide +kernel
theorem k_168E {d V n : Nat} {h : Nat → sR} {sv : Option sR} {T : sT} {ty : Nat → Int} {hp : amH} {R : xQ} {a : Int32} (hH : bHk 84 bTT hp) (hS : clS hp (V, T, ty) n h sv)
    (hT : ¬ gPt V a.toInt = 0 → R (.inr 1) hp)
    (hR : ∀ (z : Int32) hp1, bHk 84 bTT hp1 → cF hp hp1 → gPt V a.toInt = 0 → clS hp1 (V, dP (mtB T (2 ^ a.toInt.toNat) 1) T 225, ty) (pM n + 1) (pH n h (V, T, ty)) sv → z.toInt + (((trL (dP (mtB T (2 ^ a.toInt.toNat) 1) T 225) 225).length : Nat) : Int) = (((trL T 225).length : Nat) : Int) → R (.inl (some (.int z))) hp1) : xK (d + 6) 168 [.ref 0, .int a] hp R := by
  have hB : bdOk hp 3 V T := hS.1
  have hV := hB.2.1.2.1
  refine xin (M := am_m168) rfl rfl rfl ?_
  refine xald 1 ⟨u168, _, rfl⟩ rfl rfl ?_
  refine xild 2 ⟨u168, _, rfl⟩ rfl rfl ?_
  refine xcallT 5 (o := 0) [.int _] [] hH ⟨u168, _, rfl⟩ rfl rfl (by decide) rfl (by decide) rfl ⟨rfl, rfl, rfl, rfl⟩ rfl (k_rq1 hH hB.1 (fun g2 => Or.inl ⟨_, rfl, ?_⟩) (fun g2 => Or.inr ⟨_, rfl, rfl, hT (by omega)⟩))
  have k2 := gPt_0.mp g2
  refine xald 6 ⟨u168, _, rfl⟩ rfl rfl ?_
  refine xcallC 9 (o := 0) [] [] hH ⟨u168, _, rfl⟩ rfl rfl (by decide) rfl (by decide) rfl ⟨rfl, rfl, rfl, rfl⟩ rfl (k_cmS hH hS (fun hp6 hH6 F6 S6 => ⟨_, rfl, ?_⟩))
  refine xald 10 ⟨u168, _, rfl⟩ rfl rfl ?_
  refine xgetD 13 (3) hH6 ⟨u168, _, rfl⟩ rfl (by decide) (by decide) rfl rfl (by decide) ?_
  refine xcst 14 (1) ⟨u168, _, rfl⟩ rfl (by decide) (fun z13 h13 => ?_)
  refine xild 15 ⟨u168, _, rfl⟩ rfl rfl ?_
  refine xshl 16 ⟨u168, _, rfl⟩ rfl ?_
  have w1 := i_shl h13 (n := a.toInt.toNat) (c := a) (by omega) (by omega)
  refine xcst 17 (1) ⟨u168, _, rfl⟩ rfl (by decide) (fun z16 h16 => ?_)
  refine xcallC 20 (o := 3) [.int _, .int _] [] hH6 ⟨u168, _, rfl⟩ rfl rfl (by decide) rfl (by decide) rfl ⟨rfl, rfl, rfl, rfl⟩ rfl (k_27E hH6 (V := V) (T := T) (m := 2 ^ a.toInt.toNat) S6.1 S6.2.1 w1.1 w1.2 (fun z17 hp17 hH17 F17 B17 e17 => ⟨_, rfl, ?_⟩))
  rw [h16] at B17 e17
  refine xist 21 ⟨u168, _, rfl⟩ rfl rfl ?_
  refine xald 22 ⟨u168, _, rfl⟩ rfl rfl ?_
  refine xcallC 25 (o := 0) [] [] hH17 ⟨u168, _, rfl⟩ rfl rfl (by decide) rfl (by decide) rfl ⟨rfl, rfl, rfl, rfl⟩ rfl (k_stS hH17 (ty := ty) B17 (fun i hi => (bFx_n F17 (by simp)).trans (S6.2.2.2.1 i hi)) (hyC_fr S6.2.2.2.2 (fun c k c1 c2 => F17 c k (by simp; omega))) (fun hp22 hH22 F22 S22 => ⟨_, rfl, ?_⟩))
  refine xild 26 ⟨u168, _, rfl⟩ rfl rfl ?_
  exact xret ⟨u168, _, rfl⟩ rfl (hR _ hp22 hH22 ((cF_hy F6).trans ((cF_x F17 (by simp)).trans (cF_x F22 (by simp)))) g2 S22 e17)
/-- whether a triple can be forced: 0, else what is thrown -/
noncomputable def fCd (V : Nat) (T : sT) (a b c : Int) : Int := if ¬ gSet V a b c = 0 then gSet V a b c else if T a.toNat b.toNat = c then 3 else 0
theorem fCd_1 {V : Nat} {T : sT} {a b c : Int} (h : ¬ gSet V a b c = 0) : fCd V T a b c = gSet V a b c := by unfold fCd; rw [if_pos h]
theorem fCd_3 {V : Nat} {T : sT} {a b c : Int} (h : gSet V a b c = 0) (h2 : T a.toNat b.toNat = c) : fCd V T a b c = 3 := by unfold fCd; rw [if_neg (fun z => z h), if_pos h2]
theorem fCd_2 {V : Nat} {T : sT} {a b c : Int} (h : gSet V a b c = 0) (h2 : ¬ T a.toNat b.toNat = c) : fCd V T a b c = 0 := by unfold fCd; rw [if_neg (fun z => z h), if_neg h2]
end
/-! ##### 19.m.064.36j ##### -/
section
/-! ===== common points of a triple and a set (pure) ===== -/
theorem pbc_sm : ∀ (k n : Nat), pbc k n = sm (fun j => (n.testBit j).toNat) k
  | 0, _ => rfl
  | k + 1, n => by
    have a : sm (fun j => (n.testBit j).toNat) (1 + k) = sm (fun j => (n.testBit j).toNat) 1 + sm (fun j => (n.testBit (1 + j)).toNat) k := sm_split _ 1 k
    have ih := pbc_sm k (n / 2)
    have e : sm (fun j => (n.testBit (1 + j)).toNat) k = sm (fun j => ((n / 2).testBit j).toNat) k := sm_ext k (fun j _ => by rw [Nat.add_comm 1 j, Nat.testBit_succ])
    have z : (n.testBit 0).toNat = n % 2 := by
      rw [Nat.testBit_zero]
      rcases Nat.mod_two_eq_zero_or_one n with h | h <;> simp [h]
    have s : sm (fun j => (n.testBit j).toNat) 1 = (n.testBit 0).toNat := Nat.zero_add _
    rw [Nat.add_comm k 1, a, s, z, e, ← ih, Nat.add_comm 1 k]
    rfl
theorem bcN_pc {m : Nat} (h : m < 32768) : bcN m = ((pbc 15 m : Nat) : Int) := by
  rw [← bcM_pc h]
  exact bcF_m h
/-- how many points of a triple are in a set -/
theorem bc_and {x y z M : Nat} (h1 : x < y) (h2 : y < z) (h3 : z < 15) : bcN (m3 x y z &&& M) = ((M.testBit x).toNat + (M.testBit y).toNat + (M.testBit z).toNat : Nat) := by
  have ml : m3 x y z &&& M < 32768 := Nat.lt_of_le_of_lt Nat.and_le_left (m3_lt (by omega) (by omega) h3)
  have e : ∀ j, j < 15 → ((m3 x y z &&& M).testBit j).toNat = (if j = x then (M.testBit x).toNat else 0) + (if j = y then (M.testBit y).toNat else 0) + (if j = z then (M.testBit z).toNat else 0) := by
    intro j _
    rw [Nat.testBit_and, m3_test]
    by_cases g1 : j = x
    · rw [if_pos g1, if_neg (show ¬ j = y by omega), if_neg (show ¬ j = z by omega), decide_eq_true (Or.inl g1), Bool.true_and, g1]
      rfl
    · by_cases g2 : j = y
      · rw [if_neg g1, if_pos g2, if_neg (show ¬ j = z by omega), decide_eq_true (Or.inr (Or.inl g2)), Bool.true_and, g2, Nat.zero_add]
        rfl
      · by_cases g3 : j = z
        · rw [if_neg g1, if_neg g2, if_pos g3, decide_eq_true (Or.inr (Or.inr g3)), Bool.true_and, g3, Nat.zero_add]
        · rw [if_neg g1, if_neg g2, if_neg g3, decide_eq_false (fun w => by rcases w with w | w | w <;> contradiction), Bool.false_and]
          rfl
  have o : ∀ k c, k < 15 → sm (fun j => if j = k then c else 0) 15 = c := fun k c hk => sm_one hk (if_pos rfl) (fun i _ g => if_neg g)
  rw [bcN_pc ml, pbc_sm, sm_ext 15 e, sm_add, sm_add, o x _ (by omega), o y _ (by omega), o z _ h3]
/-- two points of the set on a covered pair: the pair's triple has two points of it -/
theorem mtB_2 {V : Nat} {T : sT} (hT : sOk V T) {u v M : Nat} (h : ¬ T u v = -1) (hu : M.testBit u = true) (hv : M.testBit v = true) : mtB T M 2 (cd T u v) = true := by
  obtain ⟨g1, g2, g3⟩ := cd_of hT h
  obtain ⟨z, ez, h1, h2, h3⟩ := tr_pts hT g1
  have hV := hT.2.1
  unfold mtB mk3
  rw [decide_eq_true_iff]
  rw [ez, Int.toNat_natCast] at g3 ⊢
  rw [bc_and h1 h2 (by omega)]
  obtain ⟨d, e1, e2⟩ := g3
  have ha : ∀ {b : Bool}, b = true → b.toNat = 1 := fun h => by rw [h]; rfl
  have p1 := hu
  have p2 := hv
  rcases e1 with e1 | e1 | e1 <;> rcases e2 with e2 | e2 | e2 <;> first | exact absurd (e1.trans e2.symm) d | skip
  all_goals rw [e1] at p1; rw [e2] at p2; have q1 := ha p1; have q2 := ha p2; omega
/-- behind the drop the three pairs are free -/
theorem dP_free {V : Nat} {T : sT} (hT : sOk V T) {a b c : Nat} : sFree (dP (mtB T (m3 a b c) 2) T 225) a b c := by
  have hp : ∀ u v, (m3 a b c).testBit u = true → (m3 a b c).testBit v = true → dP (mtB T (m3 a b c) 2) T 225 u v = -1 := fun u v hu hv => by
    rcases (dP_s (B := mtB T (m3 a b c) 2) hT 225).2 u v with g | g
    · exact g.1
    · exact absurd ⟨cd_lt hT g.2.1, mtB_2 hT g.2.1 hu hv⟩ g.2.2
  have t : ∀ i, (i = a ∨ i = b ∨ i = c) → (m3 a b c).testBit i = true := fun i hi => by rw [m3_test]; exact decide_eq_true hi
  exact ⟨hp _ _ (t a (by simp)) (t b (by simp)), hp _ _ (t b (by simp)) (t c (by simp)), hp _ _ (t a (by simp)) (t c (by simp))⟩
/-- what forcing brings -/
noncomputable def fcT (T : sT) (a b c : Nat) : sT := sPut (dP (mtB T (m3 a b c) 2) T 225) a b c
theorem k_170E {d V n : Nat} {h : Nat → sR} {sv : Option sR} {T : sT} {ty : Nat → Int} {hp : amH} {R : xQ} {a b c : Int32} (hH : bHk 84 bTT hp) (hS : clS hp (V, T, ty) n h sv)
    (hT : ∀ E, ¬ fCd V T a.toInt b.toInt c.toInt = 0 → exE (fCd V T a.toInt b.toInt c.toInt) E → R (.inr E) hp)
    (hR : ∀ (z : Int32) hp1, bHk 84 bTT hp1 → cF hp hp1 → fCd V T a.toInt b.toInt c.toInt = 0 → clS hp1 (V, fcT T a.toInt.toNat b.toInt.toNat c.toInt.toNat, ty) (pM n + 1) (pH n h (V, T, ty)) sv → z.toInt + (((trL (dP (mtB T (m3 a.toInt.toNat b.toInt.toNat c.toInt.toNat) 2) T 225) 225).length : Nat) : Int) = (((trL T 225).length : Nat) : Int) → R (.inl (some (.int z))) hp1) : xK (d + 6) 170 [.ref 0, .int a, .int b, .int c] hp R := by
  have hB : bdOk hp 3 V T := hS.1
  have hV := hB.2.1.2.1
  refine xin (M := am_m170) rfl rfl rfl ?_
  refine xald 1 ⟨u170, _, rfl⟩ rfl rfl ?_
  refine xild 2 ⟨u170, _, rfl⟩ rfl rfl ?_
  refine xild 3 ⟨u170, _, rfl⟩ rfl rfl ?_
  refine xild 4 ⟨u170, _, rfl⟩ rfl rfl ?_
  refine xcallT 7 (o := 0) [.int _, .int _, .int _] [] hH ⟨u170, _, rfl⟩ rfl rfl (by decide) rfl (by decide) rfl ⟨rfl, rfl, rfl, rfl⟩ rfl (k_rq3 hH hB.1 (fun g4 => Or.inl ⟨_, rfl, ?_⟩) (fun g4 => Or.inr ⟨_, rfl, rfl, hT 1 (by rw [fCd_1 (by omega)]; omega) (by rw [fCd_1 (by omega)]; exact Or.inl ⟨g4, rfl⟩)⟩) (fun g4 => Or.inr ⟨_, rfl, rfl, hT 0 (by rw [fCd_1 (by omega)]; omega) (by rw [fCd_1 (by omega)]; exact Or.inr (Or.inl ⟨g4, rfl⟩))⟩))
  have k4 := gSet_0.mp g4
  refine xild 8 ⟨u170, _, rfl⟩ rfl rfl ?_
  refine xild 9 ⟨u170, _, rfl⟩ rfl rfl ?_
  refine xild 10 ⟨u170, _, rfl⟩ rfl rfl ?_
  refine xcallS 13 [.int _, .int _, .int _] [] hH ⟨u170, _, rfl⟩ rfl rfl rfl rfl rfl (k_three (x := a.toInt.toNat) (y := b.toInt.toNat) (z := c.toInt.toNat) (by omega) (by omega) (by omega) (by omega) (by omega) (by omega) (fun z10 h10 => ⟨_, rfl, ?_⟩))
  refine xist2 15 ⟨u170, _, rfl⟩ rfl rfl ?_
  refine xald 16 ⟨u170, _, rfl⟩ rfl rfl ?_
  refine xgetD 19 (3) hH ⟨u170, _, rfl⟩ rfl (by decide) (by decide) rfl rfl (by decide) ?_
  refine xild2 21 ⟨u170, _, rfl⟩ rfl rfl ?_
  refine xcallC 24 (o := 3) [.int _] [] hH ⟨u170, _, rfl⟩ rfl rfl (by decide) rfl (by decide) rfl ⟨rfl, rfl, rfl, rfl⟩ rfl (k_hld (o := 3) (Or.inl rfl) hH hB (a := a.toInt.toNat) (b := b.toInt.toNat) (c := c.toInt.toNat) h10 (by omega) (by omega) (by omega) (by omega) (by omega) (by omega) (fun z21 h21 => ⟨_, rfl, ?_⟩))
  refine xif_eq 27 ⟨u170, _, rfl⟩ rfl (fun c24 => ?_) (fun c24 => ?_)
  · refine xald 39 ⟨u170, _, rfl⟩ rfl rfl ?_
    refine xcallC 42 (o := 0) [] [] hH ⟨u170, _, rfl⟩ rfl rfl (by decide) rfl (by decide) rfl ⟨rfl, rfl, rfl, rfl⟩ rfl (k_cmS hH hS (fun hp39 hH39 F39 S39 => ⟨_, rfl, ?_⟩))
    refine xald 43 ⟨u170, _, rfl⟩ rfl rfl ?_
    refine xgetD 46 (3) hH39 ⟨u170, _, rfl⟩ rfl (by decide) (by decide) rfl rfl (by decide) ?_
    refine xild2 48 ⟨u170, _, rfl⟩ rfl rfl ?_
    refine xcst 49 (2) ⟨u170, _, rfl⟩ rfl (by decide) (fun z48 h48 => ?_)
    refine xcallC 52 (o := 3) [.int _, .int _] [] hH39 ⟨u170, _, rfl⟩ rfl rfl (by decide) rfl (by decide) rfl ⟨rfl, rfl, rfl, rfl⟩ rfl (k_27E hH39 (V := V) (T := T) (m := m3 a.toInt.toNat b.toInt.toNat c.toInt.toNat) S39.1 S39.2.1 h10 (m3_lt (by omega) (by omega) (by omega)) (fun z49 hp49 hH49 F49 B49 e49 => ⟨_, rfl, ?_⟩))
    rw [h48] at B49 e49
    refine xist2 54 ⟨u170, _, rfl⟩ rfl rfl ?_
    refine xald 55 ⟨u170, _, rfl⟩ rfl rfl ?_
    refine xgetD 58 (3) hH49 ⟨u170, _, rfl⟩ rfl (by decide) (by decide) rfl rfl (by decide) ?_
    refine xild2 60 ⟨u170, _, rfl⟩ rfl rfl ?_
    refine xcallC 63 (o := 3) [.int _] [] hH49 ⟨u170, _, rfl⟩ rfl rfl (by decide) rfl (by decide) rfl ⟨rfl, rfl, rfl, rfl⟩ rfl (k_bputU (o := 3) (Or.inl rfl) hH49 B49 (a := a.toInt.toNat) (b := b.toInt.toNat) (c := c.toInt.toNat) h10 (by show _ < V; omega) (by show _ < V; omega) (by show _ < V; omega) (by omega) (by omega) (by omega) (dP_free hB.2.1) (fun hp60 hH60 F60 B60 => ⟨_, rfl, ?_⟩))
    refine xald 64 ⟨u170, _, rfl⟩ rfl rfl ?_
    refine xcallC 67 (o := 0) [] [] hH60 ⟨u170, _, rfl⟩ rfl rfl (by decide) rfl (by decide) rfl ⟨rfl, rfl, rfl, rfl⟩ rfl (k_stS hH60 (V := V) (T := fcT T a.toInt.toNat b.toInt.toNat c.toInt.toNat) (ty := ty) B60 (fun i hi => (bFx_n F60 (by simp)).trans ((bFx_n F49 (by simp)).trans (S39.2.2.2.1 i hi))) (hyC_fr S39.2.2.2.2 (fun c k c1 c2 => (F60 c k (by simp; omega)).trans (F49 c k (by simp; omega)))) (fun hp64 hH64 F64 S64 => ⟨_, rfl, ?_⟩))
    refine xild2 69 ⟨u170, _, rfl⟩ rfl rfl ?_
    exact xret ⟨u170, _, rfl⟩ rfl (hR _ hp64 hH64 ((cF_hy F39).trans ((cF_x F49 (by simp)).trans ((cF_x F60 (by simp)).trans (cF_x F64 (by simp))))) (fCd_2 g4 (by omega)) S64 e49)
  · exact xthr ⟨u170, _, rfl⟩ (by decide) rfl (by decide) (hT 2 (by rw [fCd_3 g4 (by omega)]; decide) (by rw [fCd_3 g4 (by omega)]; exact Or.inr (Or.inr ⟨rfl, rfl⟩)))
end
/-! ##### 19.m.065.36k ##### -/
section
/-! ===== clear and force: the reference ===== -/
/-- the triples of the pairs of p with the points below k taken -/
noncomputable def rcT (T : sT) (p : Nat) : Nat → sT
  | 0 => T
  | k + 1 => if k = p then rcT T p k else rmT (rcT T p k) p k
theorem len_rm {V : Nat} {T : sT} (hT : sOk V T) (x y : Nat) : (((trL T 225).length : Nat) : Int) = (((trL (rmT T x y) 225).length : Nat) : Int) + cvT T x y := by
  unfold rmT cvT
  by_cases h : T x y = -1
  · rw [if_pos h, if_pos h]; omega
  · rw [if_neg h, if_neg h]
    obtain ⟨w, ew, -⟩ := sOk_at hT rfl h
    have := len_take hT ew
    rw [ew, Int.toNat_natCast]
    omega
theorem l278E {d V p n : Nat} {h : Nat → sR} {sv : Option sR} {T : sT} {ty : Nat → Int} {hp0 : amH} {R : xQ} {a : Int32} (hV : V ≤ 15) (ha : a.toInt = (p : Int)) (hpV : p < V)
    (hR : ∀ (z : Int32) hp1, bHk 84 bTT hp1 → P0 hp1 → bFr [(67, 999)] hp0 hp1 → rfS hp1 (V, rcT T p V, ty) n h sv → z.toInt + (((trL (rcT T p V) 225).length : Nat) : Int) = (((trL T 225).length : Nat) : Int) → R (.inl (some (.int z))) hp1) :
    ∀ (jj k : Nat) (w wk : Int32) (hp : amH), wk.toInt = (k : Int) → k + jj = V → bHk 84 bTT hp → P0 hp → bFr [(67, 999)] hp0 hp → rfS hp (V, rcT T p k, ty) n h sv → w.toInt + (((trL (rcT T p k) 225).length : Nat) : Int) = (((trL T 225).length : Nat) : Int) → 0 ≤ w.toInt → w.toInt ≤ (k : Int) → xV (d + 3) am_m278 18 [some (.ref 66), some (.int a), some (.int w), some (.int wk)] [] hp R := by
  intro jj
  induction jj with
  | zero =>
    intro k w wk hp hwk hj hH hP hF hS hw hge hle
    have bV : rN hp 67 0 = (V : Int) := hS.1.1
    have ek : k = V := by omega
    subst ek
    refine xild 19 ⟨u278, _, rfl⟩ rfl rfl ?_
    refine xald 20 ⟨u278, _, rfl⟩ rfl rfl ?_
    refine xcall 23 [.ref 66] [.int _] hH ⟨u278, _, rfl⟩ rfl rfl rfl rfl rfl (k_points hH (fun z20 h20 => ⟨_, rfl, ?_⟩))
    refine xcmp_ge 26 ⟨u278, _, rfl⟩ rfl (fun c23 => ?_) (fun c23 => ?_)
    · refine xild 47 ⟨u278, _, rfl⟩ rfl rfl ?_
      exact xret ⟨u278, _, rfl⟩ rfl (hR _ hp hH hP hF hS hw)
    · omega
  | succ jj ih =>
    intro k w wk hp hwk hj hH hP hF hS hw hge hle
    have bV : rN hp 67 0 = (V : Int) := hS.1.1
    refine xild 19 ⟨u278, _, rfl⟩ rfl rfl ?_
    refine xald 20 ⟨u278, _, rfl⟩ rfl rfl ?_
    refine xcall 23 [.ref 66] [.int _] hH ⟨u278, _, rfl⟩ rfl rfl rfl rfl rfl (k_points hH (fun z20 h20 => ⟨_, rfl, ?_⟩))
    refine xcmp_ge 26 ⟨u278, _, rfl⟩ rfl (fun c23 => ?_) (fun c23 => ?_)
    · omega
    · refine xild 27 ⟨u278, _, rfl⟩ rfl rfl ?_
      refine xild 28 ⟨u278, _, rfl⟩ rfl rfl ?_
      refine xcmp_eq 31 ⟨u278, _, rfl⟩ rfl (fun c28 => ?_) (fun c28 => ?_)
      · refine xinc 43 (1) ⟨u278, _, rfl⟩ rfl rfl rfl (by decide) (by omega) (by omega) (fun z40 h40 => ?_)
        refine xgoto ⟨u278, _, rfl⟩ ?_
        have er : rcT T p (k + 1) = rcT T p k := by
          show (if k = p then _ else _) = _
          rw [if_pos (by omega)]
        exact ih (k + 1) _ _ hp (by omega) (by omega) hH hP hF (by rw [er]; exact hS) (by rw [er]; exact hw) hge (by omega)
      · refine xild 32 ⟨u278, _, rfl⟩ rfl rfl ?_
        refine xald 33 ⟨u278, _, rfl⟩ rfl rfl ?_
        refine xild 34 ⟨u278, _, rfl⟩ rfl rfl ?_
        refine xild 35 ⟨u278, _, rfl⟩ rfl rfl ?_
        refine xcall 38 [.ref 66, .int _, .int _] [.int _] hH ⟨u278, _, rfl⟩ rfl rfl rfl rfl rfl (k_277E hH hP hS (x := p) (y := k) ha hwk hpV (by omega) (fun z35 hp35 hH35 P35 F35 S35 e35 o35 => ⟨_, rfl, ?_⟩))
        have lr := len_rm (show sOk V (rcT T p k) from hS.1.2.1) p k
        refine xadd 39 _ ⟨u278, _, rfl⟩ rfl rfl (by omega) (by omega) (fun z38 h38 => ?_)
        refine xist 40 ⟨u278, _, rfl⟩ rfl rfl ?_
        refine xinc 43 (1) ⟨u278, _, rfl⟩ rfl rfl rfl (by decide) (by omega) (by omega) (fun z40 h40 => ?_)
        refine xgoto ⟨u278, _, rfl⟩ ?_
        have er : rcT T p (k + 1) = rmT (rcT T p k) p k := by
          show (if k = p then _ else _) = _
          rw [if_neg (by omega)]
        exact ih (k + 1) _ _ hp35 (by omega) (by omega) hH35 P35 (hF.trans F35) (by rw [er]; exact S35) (by rw [er]; omega) (by omega) (by omega)
theorem k_278E {d V n : Nat} {h : Nat → sR} {sv : Option sR} {T : sT} {ty : Nat → Int} {hp : amH} {R : xQ} {a : Int32} (hH : bHk 84 bTT hp) (hP : P0 hp) (hS : rfS hp (V, T, ty) n h sv)
    (hR : ∀ (z : Int32) hp1, bHk 84 bTT hp1 → P0 hp1 → bFr wM hp hp1 → rN hp1 66 7 = gPt V a.toInt → ((¬ gPt V a.toInt = 0 ∧ rfS hp1 (V, T, ty) n h sv) ∨ (gPt V a.toInt = 0 ∧ rfS hp1 (V, rcT T a.toInt.toNat V, ty) (pM n + 1) (pH n h (V, T, ty)) sv ∧ z.toInt + (((trL (rcT T a.toInt.toNat V) 225).length : Nat) : Int) = (((trL T 225).length : Nat) : Int))) → R (.inl (some (.int z))) hp1) : xK (d + 3) 278 [.ref 66, .int a] hp R := by
  have hV : V ≤ 15 := hS.1.2.1.2.1
  have hV0 : rN hp 67 0 = (V : Int) := hS.1.1
  refine xin (M := am_m278) rfl rfl rfl ?_
  refine xald 1 ⟨u278, _, rfl⟩ rfl rfl ?_
  refine xild 2 ⟨u278, _, rfl⟩ rfl rfl ?_
  refine xcall 5 [.ref 66, .int _] [] hH ⟨u278, _, rfl⟩ rfl rfl rfl rfl rfl (k_gp1 hH hV0 hV (fun z2 hp2 hH2 F2 t2 o2 => ⟨_, rfl, ?_⟩))
  have S2 := rfS_W hS F2 (fun _ => rfl) rfl rfl (fun _ => rfl) (fun _ => rfl)
  have P2 : P0 hp2 := P0_W (W := [(66, 7)]) (by decide) F2 hP
  refine xif_eq 8 ⟨u278, _, rfl⟩ rfl (fun c5 => ?_) (fun c5 => ?_)
  · have g2 : gPt V a.toInt = 0 := by omega
    have k2 := gPt_0.mp g2
    refine xald 11 ⟨u278, _, rfl⟩ rfl rfl ?_
    refine xcall 14 [.ref 66] [] hH2 ⟨u278, _, rfl⟩ rfl rfl rfl rfl rfl (k_rmS hH2 P2 S2 (fun hp11 hH11 P11 F11 S11 => ⟨_, rfl, ?_⟩))
    refine xcst 15 (0) ⟨u278, _, rfl⟩ rfl (by decide) (fun z14 h14 => ?_)
    refine xist 16 ⟨u278, _, rfl⟩ rfl rfl ?_
    refine xcst 17 (0) ⟨u278, _, rfl⟩ rfl (by decide) (fun z16 h16 => ?_)
    refine xist 18 ⟨u278, _, rfl⟩ rfl rfl ?_
    exact l278E (T := T) (ty := ty) (n := pM n + 1) (h := pH n h (V, T, ty)) (sv := sv) (p := a.toInt.toNat) hV (by omega) (by omega) (fun z hp1 q1 q2 q3 q4 q5 => hR z hp1 q1 q2 (((bFr_sub F2 (by decide)).trans (bFr_sub F11 (by decide))).trans (bFr_sub q3 (by decide))) (by rw [show rN hp1 66 7 = rN hp11 66 7 from r_fr q3 rfl, show rN hp11 66 7 = rN hp2 66 7 from r_fr F11 rfl]; exact t2) (Or.inr ⟨g2, q4, q5⟩)) V 0 _ _ hp11 (by omega) (by omega) hH11 P11 (bFr.refl _ _) S11 (by rw [h14]; show (0 : Int) + _ = _; rw [Int.zero_add]; rfl) (by omega) (by omega)
  · refine xcst 9 (0) ⟨u278, _, rfl⟩ rfl (by decide) (fun z8 h8 => ?_)
    exact xret ⟨u278, _, rfl⟩ rfl (hR _ hp2 hH2 P2 (bFr_sub F2 (by decide)) t2 (Or.inl ⟨by omega, S2⟩))
end
/-! ##### 19.m.066.36l ##### -/
section
/-! ===== force: the reference ===== -/
theorem rmT_no {T : sT} {x y u v : Nat} (h : T u v = -1) : rmT T x y u v = -1 := by
  unfold rmT
  split
  · exact h
  · unfold sTake
    split
    · rfl
    · exact h
theorem rmT_at {V : Nat} {T : sT} (hT : sOk V T) {x y : Nat} (hxy : ¬ x = y) : rmT T x y x y = -1 := by
  unfold rmT
  by_cases h : T x y = -1
  · rw [if_pos h]; exact h
  · rw [if_neg h]
    unfold sTake
    rw [if_pos ⟨hxy, by simp, by simp⟩]
/-- the triples of the three pairs taken -/
noncomputable def r3T (T : sT) (x y z : Nat) : sT := rmT (rmT (rmT T x y) y z) x z
theorem k_276E {d V n : Nat} {h : Nat → sR} {sv : Option sR} {T : sT} {ty : Nat → Int} {hp : amH} {R : xQ} {a b c : Int32} (hH : bHk 84 bTT hp) (hP : P0 hp) (hS : rfS hp (V, T, ty) n h sv)
    (hR : ∀ (z : Int32) hp1, bHk 84 bTT hp1 → P0 hp1 → bFr wM hp hp1 → rN hp1 66 7 = fCd V T a.toInt b.toInt c.toInt → ((¬ fCd V T a.toInt b.toInt c.toInt = 0 ∧ rfS hp1 (V, T, ty) n h sv) ∨ (fCd V T a.toInt b.toInt c.toInt = 0 ∧ rfS hp1 (V, sPut (r3T T a.toInt.toNat b.toInt.toNat c.toInt.toNat) a.toInt.toNat b.toInt.toNat c.toInt.toNat, ty) (pM n + 1) (pH n h (V, T, ty)) sv ∧ z.toInt + (((trL (r3T T a.toInt.toNat b.toInt.toNat c.toInt.toNat) 225).length : Nat) : Int) = (((trL T 225).length : Nat) : Int))) → R (.inl (some (.int z))) hp1) : xK (d + 4) 276 [.ref 66, .int a, .int b, .int c] hp R := by
  have hV : V ≤ 15 := hS.1.2.1.2.1
  have hV0 : rN hp 67 0 = (V : Int) := hS.1.1
  refine xin (M := am_m276) rfl rfl rfl ?_
  refine xald 1 ⟨u276, _, rfl⟩ rfl rfl ?_
  refine xild 2 ⟨u276, _, rfl⟩ rfl rfl ?_
  refine xild 3 ⟨u276, _, rfl⟩ rfl rfl ?_
  refine xild 4 ⟨u276, _, rfl⟩ rfl rfl ?_
  refine xcall 7 [.ref 66, .int _, .int _, .int _] [] hH ⟨u276, _, rfl⟩ rfl rfl rfl rfl rfl (k_gp3 hH hV0 hV (fun z4 hp4 hH4 F4 t4 o4 => ⟨_, rfl, ?_⟩))
  have S4 := rfS_W hS F4 (fun _ => rfl) rfl rfl (fun _ => rfl) (fun _ => rfl)
  have P4 : P0 hp4 := P0_W (W := [(66, 7)]) (by decide) F4 hP
  refine xif_ne 10 ⟨u276, _, rfl⟩ rfl (fun c7 => ?_) (fun c7 => ?_)
  · refine xcst 34 (0) ⟨u276, _, rfl⟩ rfl (by decide) (fun z33 h33 => ?_)
    exact xret ⟨u276, _, rfl⟩ rfl (hR _ hp4 hH4 P4 (bFr_sub F4 (by decide)) (by rw [t4, fCd_1 (by omega)]) (Or.inl ⟨by rw [fCd_1 (by omega)]; omega, S4⟩))
  · have g4 : gSet V a.toInt b.toInt c.toInt = 0 := by omega
    have k4 := gSet_0.mp g4
    refine xald 11 ⟨u276, _, rfl⟩ rfl rfl ?_
    refine xald 12 ⟨u276, _, rfl⟩ rfl rfl ?_
    refine xild 13 ⟨u276, _, rfl⟩ rfl rfl ?_
    refine xild 14 ⟨u276, _, rfl⟩ rfl rfl ?_
    refine xcall 17 [.ref 66, .int _, .int _] [.ref 66] hH4 ⟨u276, _, rfl⟩ rfl rfl rfl rfl rfl (k_third hH4 (by omega) (by omega) (by omega) (by omega) (fun z14 h14 => ⟨_, rfl, ?_⟩))
    rw [(rowOk_rd S4.1).2.2.1 a.toInt.toNat b.toInt.toNat (by omega) (by omega)] at h14
    have h14 : z14.toInt = T a.toInt.toNat b.toInt.toNat := h14
    refine xild 18 ⟨u276, _, rfl⟩ rfl rfl ?_
    refine xcmp_ne 21 ⟨u276, _, rfl⟩ rfl (fun c18 => ?_) (fun c18 => ?_)
    · refine xcst 26 (0) ⟨u276, _, rfl⟩ rfl (by decide) (fun z25 h25 => ?_)
      refine xcst 27 (3) ⟨u276, _, rfl⟩ rfl (by decide) (fun z26 h26 => ?_)
      refine xcall 30 [.ref 66, .int _, .int _] [] hH4 ⟨u276, _, rfl⟩ rfl rfl rfl rfl rfl (k_failsE hH4 (by omega) (fun hp27 hH27 V27 => ⟨_, rfl, ?_⟩))
      refine xif_eq 33 ⟨u276, _, rfl⟩ rfl (fun c30 => ?_) (fun c30 => ?_)
      · have hpe : hp4 = hp27 := by
          rcases V27 with ⟨q1, e⟩ | ⟨q1, -⟩
          · exact e.symm
          · omega
        subst hpe
        have nf : ¬ T a.toInt.toNat b.toInt.toNat = c.toInt := by omega
        refine xald 36 ⟨u276, _, rfl⟩ rfl rfl ?_
        refine xcall 39 [.ref 66] [] hH27 ⟨u276, _, rfl⟩ rfl rfl rfl rfl rfl (k_rmS hH27 P4 S4 (fun hp36 hH36 P36 F36 S36 => ⟨_, rfl, ?_⟩))
        refine xald 40 ⟨u276, _, rfl⟩ rfl rfl ?_
        refine xild 41 ⟨u276, _, rfl⟩ rfl rfl ?_
        refine xild 42 ⟨u276, _, rfl⟩ rfl rfl ?_
        refine xcall 45 [.ref 66, .int _, .int _] [] hH36 ⟨u276, _, rfl⟩ rfl rfl rfl rfl rfl (k_277E hH36 P36 S36 (x := a.toInt.toNat) (y := b.toInt.toNat) (by omega) (by omega) (by show _ < V; omega) (by show _ < V; omega) (fun z42 hp42 hH42 P42 F42 S42 e42 o42 => ⟨_, rfl, ?_⟩))
        have lr42 := len_rm (show sOk V _ from S36.1.2.1) (a.toInt.toNat) (b.toInt.toNat)
        dsimp only at lr42
        refine xald 46 ⟨u276, _, rfl⟩ rfl rfl ?_
        refine xild 47 ⟨u276, _, rfl⟩ rfl rfl ?_
        refine xild 48 ⟨u276, _, rfl⟩ rfl rfl ?_
        refine xcall 51 [.ref 66, .int _, .int _] [.int _] hH42 ⟨u276, _, rfl⟩ rfl rfl rfl rfl rfl (k_277E hH42 P42 S42 (x := b.toInt.toNat) (y := c.toInt.toNat) (by omega) (by omega) (by show _ < V; omega) (by show _ < V; omega) (fun z48 hp48 hH48 P48 F48 S48 e48 o48 => ⟨_, rfl, ?_⟩))
        have lr48 := len_rm (show sOk V _ from S42.1.2.1) (b.toInt.toNat) (c.toInt.toNat)
        dsimp only at lr48
        refine xadd 52 _ ⟨u276, _, rfl⟩ rfl rfl (by omega) (by omega) (fun z51 h51 => ?_)
        refine xald 53 ⟨u276, _, rfl⟩ rfl rfl ?_
        refine xild 54 ⟨u276, _, rfl⟩ rfl rfl ?_
        refine xild 55 ⟨u276, _, rfl⟩ rfl rfl ?_
        refine xcall 58 [.ref 66, .int _, .int _] [.int _] hH48 ⟨u276, _, rfl⟩ rfl rfl rfl rfl rfl (k_277E hH48 P48 S48 (x := a.toInt.toNat) (y := c.toInt.toNat) (by omega) (by omega) (by show _ < V; omega) (by show _ < V; omega) (fun z55 hp55 hH55 P55 F55 S55 e55 o55 => ⟨_, rfl, ?_⟩))
        have lr55 := len_rm (show sOk V _ from S48.1.2.1) (a.toInt.toNat) (c.toInt.toNat)
        dsimp only at lr55
        refine xadd 59 _ ⟨u276, _, rfl⟩ rfl rfl (by omega) (by omega) (fun z58 h58 => ?_)
        refine xist2 61 ⟨u276, _, rfl⟩ rfl rfl ?_
        refine xald 62 ⟨u276, _, rfl⟩ rfl rfl ?_
        refine xild 63 ⟨u276, _, rfl⟩ rfl rfl ?_
        refine xild 64 ⟨u276, _, rfl⟩ rfl rfl ?_
        refine xild 65 ⟨u276, _, rfl⟩ rfl rfl ?_
        refine xcall 68 [.ref 66, .int _, .int _, .int _] [] hH55 ⟨u276, _, rfl⟩ rfl rfl rfl rfl rfl (k_ptR hH55 P55 S55.1 (x := a.toInt.toNat) (y := b.toInt.toNat) (z := c.toInt.toNat) (by omega) (by omega) (by omega) (by show _ < V; omega) (by show _ < V; omega) (by show _ < V; omega) (by omega) (by omega) (by omega) ⟨rmT_no (rmT_no (rmT_at hS.1.2.1 (by omega))), rmT_no (rmT_at S42.1.2.1 (by omega)), rmT_at S48.1.2.1 (by omega)⟩ (fun hp65 hH65 P65 F65 C65 => ⟨_, rfl, ?_⟩))
        have S65 := rfS_67 S55 F65 C65
        refine xild2 70 ⟨u276, _, rfl⟩ rfl rfl ?_
        exact xret ⟨u276, _, rfl⟩ rfl (hR _ hp65 hH65 P65 ((((((bFr_sub F4 (by decide)).trans (bFr_sub F36 (by decide))).trans (bFr_sub F42 (by decide))).trans (bFr_sub F48 (by decide))).trans (bFr_sub F55 (by decide))).trans (bFr_sub F65 (by decide))) (by rw [fCd_2 g4 nf, show rN hp65 66 7 = rN hp55 66 7 from r_fr F65 rfl, show rN hp55 66 7 = rN hp48 66 7 from r_fr F55 rfl, show rN hp48 66 7 = rN hp42 66 7 from r_fr F48 rfl, show rN hp42 66 7 = rN hp36 66 7 from r_fr F42 rfl, show rN hp36 66 7 = rN hp4 66 7 from r_fr F36 rfl, t4, g4]) (Or.inr ⟨fCd_2 g4 nf, S65, by unfold r3T; omega⟩))
      · rcases V27 with ⟨q1, -⟩ | ⟨q1, -⟩ <;> omega
    · refine xcst 22 (1) ⟨u276, _, rfl⟩ rfl (by decide) (fun z21 h21 => ?_)
      refine xgoto ⟨u276, _, rfl⟩ ?_
      refine xcst 27 (3) ⟨u276, _, rfl⟩ rfl (by decide) (fun z26 h26 => ?_)
      refine xcall 30 [.ref 66, .int _, .int _] [] hH4 ⟨u276, _, rfl⟩ rfl rfl rfl rfl rfl (k_failsE hH4 (by omega) (fun hp27 hH27 V27 => ⟨_, rfl, ?_⟩))
      refine xif_eq 33 ⟨u276, _, rfl⟩ rfl (fun c30 => ?_) (fun c30 => ?_)
      · rcases V27 with ⟨q1, -⟩ | ⟨q1, -⟩ <;> omega
      · refine xcst 34 (0) ⟨u276, _, rfl⟩ rfl (by decide) (fun z33 h33 => ?_)
        rcases V27 with ⟨q1, -⟩ | ⟨q1, U⟩
        · omega
        · have fr : T a.toInt.toNat b.toInt.toNat = c.toInt := by omega
          exact xret ⟨u276, _, rfl⟩ rfl (hR _ hp27 hH27 (P0_W (W := [(66, 7)]) (by decide) (rU_fr U rfl) P4) ((bFr_sub F4 (by decide)).trans (rU_fr U (by decide))) (by rw [U.1, fCd_3 g4 fr]; exact h26) (Or.inl ⟨by rw [fCd_3 g4 fr]; decide, rfS_W (W := [(66, 7)]) S4 (rU_fr U rfl) (fun _ => rfl) rfl rfl (fun _ => rfl) (fun _ => rfl)⟩))
end
/-! ##### 19.m.067.36m ##### -/
section
/-! ===== clear and force bring the same on both sides (pure) ===== -/
abbrev inT (T : sT) (u v i : Nat) : Prop := i = u ∨ i = v ∨ T u v = (i : Int)
theorem inT_tr {V : Nat} {T : sT} (hT : sOk V T) {u v x y : Nat} (h : ¬ T u v = -1) (hxy : ¬ x = y) (hx : inT T u v x) (hy : inT T u v y) : ¬ T x y = -1 ∧ ∀ i, inT T u v i ↔ inT T x y i := by
  obtain ⟨w, ew, l1, l2, l3, d1, d2, d3, t1, t2, t3, t4, t5⟩ := sOk_at hT rfl h
  unfold inT at *
  rw [ew] at hx hy ⊢
  have hx : x = u ∨ x = v ∨ x = w := by omega
  have hy : y = u ∨ y = v ∨ y = w := by omega
  have g : ∀ a b c : Nat, T a b = (c : Int) → (∀ i, (i = u ∨ i = v ∨ i = w) ↔ (i = a ∨ i = b ∨ i = c)) → ¬ T a b = -1 ∧ ∀ i : Nat, (i = u ∨ i = v ∨ (w : Int) = (i : Int)) ↔ (i = a ∨ i = b ∨ T a b = (i : Int)) := fun a b c e k => by
    rw [e]
    refine ⟨by omega, fun i => ?_⟩
    have := k i
    omega
  rcases hx with hx | hx | hx <;> rcases hy with hy | hy | hy <;> rw [hx, hy] <;> first | exact absurd (hx.trans hy.symm) hxy | skip
  · exact g u v w ew (fun i => by omega)
  · exact g u w v t2 (fun i => by omega)
  · exact g v u w t1 (fun i => by omega)
  · exact g v w u t3 (fun i => by omega)
  · exact g w u v t4 (fun i => by omega)
  · exact g w v u t5 (fun i => by omega)
/-- S is T without the triples of which C says so -/
noncomputable def tkn (T S : sT) (C : Nat → Nat → Prop) : Prop := ∀ u v, (S u v = -1 ∧ (T u v = -1 ∨ C u v)) ∨ (S u v = T u v ∧ ¬ T u v = -1 ∧ ¬ C u v)
noncomputable def inv3 (T : sT) (C : Nat → Nat → Prop) : Prop := ∀ u v x y, ¬ T u v = -1 → ¬ x = y → inT T u v x → inT T u v y → (C u v ↔ C x y)
theorem tkn_eq {T S S1 : sT} {C C1 : Nat → Nat → Prop} (h : tkn T S C) (h1 : tkn T S1 C1) (e : ∀ u v, ¬ T u v = -1 → (C u v ↔ C1 u v)) : S = S1 := by
  funext u v
  rcases h u v with ⟨a, b⟩ | ⟨a, b, c⟩
  · rcases h1 u v with ⟨a1, b1⟩ | ⟨a1, b1, c1⟩
    · rw [a, a1]
    · rcases b with b | b
      · exact absurd b b1
      · exact absurd ((e u v b1).mp b) c1
  · rcases h1 u v with ⟨a1, b1⟩ | ⟨a1, b1, c1⟩
    · rcases b1 with b1 | b1
      · exact absurd b1 b
      · exact absurd ((e u v b).mpr b1) c
    · rw [a, a1]
theorem tkn_0 (T : sT) : tkn T T (fun _ _ => False) := fun u v => by
  by_cases h : T u v = -1
  · exact Or.inl ⟨h, Or.inl h⟩
  · exact Or.inr ⟨rfl, h, id⟩
theorem inv3_0 (T : sT) : inv3 T (fun _ _ => False) := fun _ _ _ _ _ _ _ _ => Iff.rfl
theorem inv3_or {V : Nat} {T : sT} (hT : sOk V T) {C : Nat → Nat → Prop} (h : inv3 T C) (a b : Nat) : inv3 T (fun u v => C u v ∨ (inT T u v a ∧ inT T u v b)) := fun u v x y g1 g2 g3 g4 => by
  have k := (inT_tr hT g1 g2 g3 g4).2
  have c := h u v x y g1 g2 g3 g4
  show (C u v ∨ inT T u v a ∧ inT T u v b) ↔ (C x y ∨ inT T x y a ∧ inT T x y b)
  rw [k a, k b, c]
theorem rm_s {V : Nat} {T S : sT} {C : Nat → Nat → Prop} (hT : sOk V T) (h : tkn T S C) (hC : inv3 T C) {x y : Nat} (hxy : ¬ x = y) : tkn T (rmT S x y) (fun u v => C u v ∨ (inT T u v x ∧ inT T u v y)) := by
  intro u v
  unfold rmT
  by_cases e : S x y = -1
  · rw [if_pos e]
    rcases h u v with ⟨a, b⟩ | ⟨a, b, c⟩
    · exact Or.inl ⟨a, b.imp id Or.inl⟩
    · refine Or.inr ⟨a, b, fun z => ?_⟩
      rcases z with z | ⟨z1, z2⟩
      · exact c z
      · have k := (inT_tr hT b hxy z1 z2).1
        have cc := hC u v x y b hxy z1 z2
        rcases h x y with ⟨p, q⟩ | ⟨p, q, r⟩
        · rcases q with q | q
          · exact k q
          · exact c (cc.mpr q)
        · exact q (p.symm.trans e)
  · rw [if_neg e]
    obtain ⟨p, q, r⟩ : S x y = T x y ∧ ¬ T x y = -1 ∧ ¬ C x y := by
      rcases h x y with ⟨p, -⟩ | g
      · exact absurd p e
      · exact g
    obtain ⟨w, ew, -, -, -, d1, d2, d3, -⟩ := sOk_at hT rfl q
    rw [p, ew, Int.toNat_natCast]
    unfold sTake
    by_cases hp : sPr x y w u v
    · rw [if_pos hp]
      obtain ⟨n, i1, i2⟩ := hp
      have k := (inT_tr hT q n (show inT T x y u by unfold inT; omega) (show inT T x y v by unfold inT; omega)).2
      exact Or.inl ⟨rfl, Or.inr (Or.inr ⟨(k x).mp (Or.inl rfl), (k y).mp (Or.inr (Or.inl rfl))⟩)⟩
    · rw [if_neg hp]
      rcases h u v with ⟨a, b⟩ | ⟨a, b, c⟩
      · exact Or.inl ⟨a, b.imp id Or.inl⟩
      · refine Or.inr ⟨a, b, fun z => ?_⟩
        rcases z with z | ⟨z1, z2⟩
        · exact c z
        · have k := (inT_tr hT b hxy z1 z2).2
          have ku := (k u).mp (Or.inl rfl)
          have kv := (k v).mp (Or.inr (Or.inl rfl))
          obtain ⟨-, -, -, -, -, duv, -⟩ := sOk_at hT rfl b
          unfold inT at ku kv
          rw [ew] at ku kv
          exact hp ⟨duv, by omega, by omega⟩
theorem dP_tkn {V : Nat} {B : Nat → Bool} {T : sT} (hT : sOk V T) : tkn T (dP B T 225) (fun u v => B (cd T u v) = true) := fun u v => by
  rcases (dP_s (B := B) hT 225).2 u v with ⟨a, b⟩ | ⟨a, b, c⟩
  · exact Or.inl ⟨a, b.imp id (fun k => k.2)⟩
  · exact Or.inr ⟨a, b, fun k => c ⟨cd_lt hT b, k⟩⟩
/-- the points of a covered pair's triple in a set, counted -/
theorem mtB_n {V : Nat} {T : sT} (hT : sOk V T) {u v w M : Nat} {c : Int} (h : T u v = (w : Int)) : mtB T M c (cd T u v) = true ↔ c ≤ ((M.testBit u).toNat + (M.testBit v).toNat + (M.testBit w).toNat : Nat) := by
  have hne : ¬ T u v = -1 := by omega
  obtain ⟨g1, g2, g3⟩ := cd_of hT hne
  obtain ⟨z, ez, h1, h2, h3⟩ := tr_pts hT g1
  have hV := hT.2.1
  have e := mk_cd hT h
  have e2 : m3 (cd T u v / 15) (cd T u v % 15) z = m3 u v w := by rw [← e]; unfold mk3; rw [ez, Int.toNat_natCast]
  unfold mtB
  rw [decide_eq_true_iff, e, ← e2, bc_and h1 h2 (by omega)]
  obtain ⟨w', ew, -, -, -, d1, d2, d3, -⟩ := sOk_at hT rfl hne
  have q := fun i => m3_eq e2 i
  have qu := (q u).mpr (Or.inl rfl)
  have qv := (q v).mpr (Or.inr (Or.inl rfl))
  have qw := (q w).mpr (Or.inr (Or.inr rfl))
  have hw : w' = w := by omega
  subst hw
  rcases qu with a | a | a <;> rcases qv with b | b | b <;> rcases qw with c' | c' | c' <;> first | exact absurd (a.trans b.symm) d1 | exact absurd (a.trans c'.symm) d2 | exact absurd (b.trans c'.symm) d3 | (rw [← a, ← b, ← c'] <;> omega)
theorem two_of {u v w a b c : Nat} (hab : ¬ a = b) (hbc : ¬ b = c) (hac : ¬ a = c) (d1 : ¬ u = v) (d2 : ¬ u = w) (d3 : ¬ v = w) : 2 ≤ (if u = a ∨ u = b ∨ u = c then 1 else 0) + (if v = a ∨ v = b ∨ v = c then 1 else 0) + (if w = a ∨ w = b ∨ w = c then 1 else 0) ↔ (((a = u ∨ a = v ∨ a = w) ∧ (b = u ∨ b = v ∨ b = w)) ∨ (b = u ∨ b = v ∨ b = w) ∧ (c = u ∨ c = v ∨ c = w)) ∨ (a = u ∨ a = v ∨ a = w) ∧ (c = u ∨ c = v ∨ c = w) := by
  have cs : ∀ i : Nat, i = a ∨ i = b ∨ i = c ∨ (¬ i = a ∧ ¬ i = b ∧ ¬ i = c) := fun i => by omega
  have cu := cs u
  have cv := cs v
  have cw := cs w
  clear cs
  rcases cu with hu | hu | hu | ⟨hu1, hu2, hu3⟩ <;> rcases cv with hv | hv | hv | ⟨hv1, hv2, hv3⟩ <;> first | exact absurd (hu.trans hv.symm) d1 | (rcases cw with hw | hw | hw | ⟨hw1, hw2, hw3⟩ <;> first | exact absurd (hu.trans hw.symm) d2 | exact absurd (hv.trans hw.symm) d3 | ((first | rw [if_pos (show u = a ∨ u = b ∨ u = c by omega)] | rw [if_neg (show ¬ (u = a ∨ u = b ∨ u = c) by omega)]); (first | rw [if_pos (show v = a ∨ v = b ∨ v = c by omega)] | rw [if_neg (show ¬ (v = a ∨ v = b ∨ v = c) by omega)]); (first | rw [if_pos (show w = a ∨ w = b ∨ w = c by omega)] | rw [if_neg (show ¬ (w = a ∨ w = b ∨ w = c) by omega)]); constructor <;> intro z <;> omega))
theorem force_eq {V : Nat} {T : sT} (hT : sOk V T) {a b c : Nat} (hab : ¬ a = b) (hbc : ¬ b = c) (hac : ¬ a = c) : dP (mtB T (m3 a b c) 2) T 225 = r3T T a b c := by
  have s1 := rm_s hT (tkn_0 T) (inv3_0 T) hab
  have i1 := inv3_or hT (inv3_0 T) a b
  have s2 := rm_s hT s1 i1 hbc
  have i2 := inv3_or hT i1 b c
  have s3 := rm_s hT s2 i2 hac
  refine tkn_eq (dP_tkn hT) s3 (fun u v h => ?_)
  obtain ⟨w, ew, -, -, -, d1, d2, d3, -⟩ := sOk_at hT rfl h
  show _ ↔ ((False ∨ inT T u v a ∧ inT T u v b) ∨ inT T u v b ∧ inT T u v c) ∨ inT T u v a ∧ inT T u v c
  rw [false_or]
  rw [mtB_n hT ew]
  unfold inT
  rw [ew]
  have t : ∀ i, ((m3 a b c).testBit i).toNat = if i = a ∨ i = b ∨ i = c then 1 else 0 := fun i => by
    rw [m3_test]
    by_cases g : i = a ∨ i = b ∨ i = c
    · rw [if_pos g, decide_eq_true g]; rfl
    · rw [if_neg g, decide_eq_false g]; rfl
  rw [t, t, t]
  have iw : ∀ i : Nat, ((w : Int) = (i : Int)) ↔ i = w := fun i => by omega
  rw [iw, iw, iw]
  show ((2 : Nat) : Int) ≤ _ ↔ _
  rw [Int.ofNat_le]
  exact two_of hab hbc hac d1 d2 d3
end
/-! ##### 19.m.068.36n ##### -/
section
/-! ===== clear brings the same on both sides (pure) ===== -/
noncomputable def rcC (T : sT) (p k : Nat) (u v : Nat) : Prop := ∃ q, q < k ∧ ¬ q = p ∧ inT T u v p ∧ inT T u v q
theorem rcC_inv {V : Nat} {T : sT} (hT : sOk V T) (p k : Nat) : inv3 T (rcC T p k) := fun u v x y g1 g2 g3 g4 => by
  have t := (inT_tr hT g1 g2 g3 g4).2
  unfold rcC
  constructor
  · rintro ⟨q, q1, q2, q3, q4⟩
    exact ⟨q, q1, q2, (t p).mp q3, (t q).mp q4⟩
  · rintro ⟨q, q1, q2, q3, q4⟩
    exact ⟨q, q1, q2, (t p).mpr q3, (t q).mpr q4⟩
theorem tkn_C {T S : sT} {C C1 : Nat → Nat → Prop} (h : tkn T S C) (e : ∀ u v, C u v ↔ C1 u v) : tkn T S C1 := fun u v => by
  rw [← e u v]
  exact h u v
theorem rc_s {V : Nat} {T : sT} (hT : sOk V T) (p : Nat) : ∀ k, tkn T (rcT T p k) (rcC T p k)
  | 0 => tkn_C (tkn_0 T) (fun u v => ⟨fun z => z.elim, fun ⟨q, q1, _⟩ => absurd q1 (Nat.not_lt_zero q)⟩)
  | k + 1 => by
    have ih := rc_s hT p k
    by_cases e : k = p
    · have er : rcT T p (k + 1) = rcT T p k := by
        show (if k = p then _ else _) = _
        rw [if_pos e]
      rw [er]
      refine tkn_C ih (fun u v => ⟨fun ⟨q, q1, q2, q3⟩ => ⟨q, by omega, q2, q3⟩, fun ⟨q, q1, q2, q3⟩ => ⟨q, by omega, q2, q3⟩⟩)
    · have er : rcT T p (k + 1) = rmT (rcT T p k) p k := by
        show (if k = p then _ else _) = _
        rw [if_neg e]
      rw [er]
      refine tkn_C (rm_s hT ih (rcC_inv hT p k) (fun z => e z.symm)) (fun u v => ⟨fun z => ?_, fun ⟨q, q1, q2, q3, q4⟩ => ?_⟩)
      · rcases z with ⟨q, q1, q2, q3⟩ | ⟨z1, z2⟩
        · exact ⟨q, by omega, q2, q3⟩
        · exact ⟨k, by omega, e, z1, z2⟩
      · by_cases g : q = k
        · subst g
          exact Or.inr ⟨q3, q4⟩
        · exact Or.inl ⟨q, by omega, q2, q3, q4⟩
theorem clear_eq {V : Nat} {T : sT} (hT : sOk V T) {p : Nat} : dP (mtB T (2 ^ p) 1) T 225 = rcT T p V := by
  refine tkn_eq (dP_tkn hT) (rc_s hT p V) (fun u v h => ?_)
  obtain ⟨w, ew, l1, l2, l3, d1, d2, d3, -⟩ := sOk_at hT rfl h
  rw [mtB_n hT ew]
  have t : ∀ i, ((2 ^ p : Nat).testBit i).toNat = if i = p then 1 else 0 := fun i => by
    rw [p2_test]
    by_cases g : i = p
    · rw [if_pos g, decide_eq_true g]; rfl
    · rw [if_neg g, decide_eq_false g]; rfl
  rw [t, t, t]
  unfold rcC inT
  rw [ew]
  constructor
  · intro z
    have hp : p = u ∨ p = v ∨ p = w := by
      by_cases a : u = p
      · exact Or.inl a.symm
      · by_cases b : v = p
        · exact Or.inr (Or.inl b.symm)
        · by_cases c : w = p
          · exact Or.inr (Or.inr c.symm)
          · rw [if_neg a, if_neg b, if_neg c] at z
            omega
    by_cases a : u = p
    · exact ⟨v, l2, by omega, by omega, by omega⟩
    · exact ⟨u, l1, a, by omega, by omega⟩
  · rintro ⟨q, -, -, q3, -⟩
    have hp : u = p ∨ v = p ∨ w = p := by omega
    rcases hp with a | a | a
    · rw [if_pos a]; omega
    · rw [if_pos a]; omega
    · rw [if_pos a]; omega
end
/-! ##### 19.m.069.36o ##### -/
section
/-! ===== the class loads: its whole state ===== -/
theorem hyC_fga {hp hp1 : amH} {n : Nat} {h : Nat → sR} {sv : Option sR} (hY : hyC hp n h sv) (F : bFr wFg hp hp1) (a : rN hp1 14 0 = 0) (b : rN hp1 14 3 = 0) : hyC hp1 0 h none := by
  obtain ⟨y1, y2, y3, ⟨f, hA, y4⟩, y5⟩ := hY
  refine ⟨a, Nat.zero_le _, fun s hs => ?_, ⟨f, ⟨fun k hk => ⟨(hA.1 k hk).1, (hA.1 k hk).2.1, (F 15 k rfl).trans (hA.1 k hk).2.2⟩, hA.2⟩, fun k hk => absurd hk (Nat.not_lt_zero k)⟩, b⟩
  have c := sn_c hs
  have e : ∀ k, bIn wFg s k = false := fun k => by rcases c with rfl | rfl | rfl | rfl | rfl | rfl | rfl | rfl | rfl | rfl | rfl <;> rfl
  exact ⟨(F s 2 (e 2)).trans (y3 s hs).1, (F s 3 (e 3)).trans (y3 s hs).2⟩
/-- what a load brings: the state as it was, or the text's system alone -/
noncomputable def rC3 (y : tY) (z : Int) (q : sR) (n : Nat) (h : Nat → sR) (sv : Option sR) (hp1 : amH) : Prop := match tRd y with
  | .inl e => z = -1 ∧ rN hp1 1 1 = e.1 ∧ rN hp1 1 2 = (e.2 : Int) ∧ clS hp1 q n h sv
  | .inr p => z = (((trL p.2 225).length : Nat) : Int) ∧ rN hp1 1 1 = 0 ∧ rN hp1 1 2 = -1 ∧ clS hp1 (p.1, p.2, fun _ => 0) 0 h none
theorem wTy_no {c k : Nat} (h : 14 ≤ c) : bIn wTy c k = false := bIn_out (fun p hp z => by simp [wTy] at hp; rcases hp with rfl | rfl | rfl <;> (have := z.1; omega))
theorem wFg_no {c k : Nat} (h : 66 ≤ c) : bIn wFg c k = false := bIn_out (fun p hp z => by simp [wFg] at hp; rcases hp with rfl | rfl <;> (have := z.1; omega))
theorem k_cldS {d n : Nat} {h : Nat → sR} {sv : Option sR} {q0 : sR} {hp : amH} {R : xQ} {y : tY} (hH : bHk 84 bTT hp) (hS : clS hp q0 n h sv) (Y : cB hp = y)
    (hR : ∀ (z : Int32) hp1, bHk 84 bTT hp1 → (∀ c k, 66 ≤ c → bFld hp1 c k = bFld hp c k) → rN hp1 1 0 = 0 → rC3 y z.toInt q0 n h sv hp1 → R (.inl (some (.int z))) hp1) : xK (d + 7) 115 [.ref 0] hp R := by
  refine xin (M := am_m115) rfl rfl rfl ?_
  refine xald 1 ⟨u115, _, rfl⟩ rfl rfl ?_
  refine xgetD 4 (1) hH ⟨u115, _, rfl⟩ rfl (by decide) (by decide) rfl rfl (by decide) ?_
  refine xald 5 ⟨u115, _, rfl⟩ rfl rfl ?_
  refine xgetD 8 (8) hH ⟨u115, _, rfl⟩ rfl (by decide) (by decide) rfl rfl (by decide) ?_
  refine xcallC 11 (o := 1) [.ref 8] [] hH ⟨u115, _, rfl⟩ rfl rfl (by decide) rfl (by decide) rfl ⟨rfl, rfl, rfl, rfl⟩ rfl (k_read hH Y (fun z8 hp8 hH8 F8 r8 => ⟨_, rfl, ?_⟩))
  have S17 : ∀ hp17 : amH, rU hp8 hp17 1 0 0 → clS hp17 q0 n h sv := fun hp17 U => clS_8 hS (fun c k hc => (U.2 c k (fun z => by omega)).trans (F8 c k (by omega)))
  refine xist 12 ⟨u115, _, rfl⟩ rfl rfl ?_
  refine xald 13 ⟨u115, _, rfl⟩ rfl rfl ?_
  refine xgetD 16 (1) hH8 ⟨u115, _, rfl⟩ rfl (by decide) (by decide) rfl rfl (by decide) ?_
  refine xcst 17 (0) ⟨u115, _, rfl⟩ rfl (by decide) (fun z16 h16 => ?_)
  refine xputC 20 hH8 ⟨u115, _, rfl⟩ rfl (by decide) (by decide) rfl rfl (by decide) ⟨rfl, rfl⟩ (by omega) (by omega) (fun hp17 hH17 U17 => ?_)
  have s17 := U17.1
  refine xild 21 ⟨u115, _, rfl⟩ rfl rfl ?_
  refine xif_ne 24 ⟨u115, _, rfl⟩ rfl (fun c21 => ?_) (fun c21 => ?_)
  · refine xald 27 ⟨u115, _, rfl⟩ rfl rfl ?_
    obtain ⟨q, eq⟩ : ∃ q, tRd y = .inr q := by
      cases e : tRd y with
      | inr q => exact ⟨q, rfl⟩
      | inl er => unfold rRd at r8; rw [e] at r8; have := r8.1; omega
    unfold rRd at r8
    rw [eq] at r8
    obtain ⟨-, B8, c8, e8⟩ := r8
    have B17 : bdOk hp17 8 q.1 q.2 := bdOk_fr B8 (rU_ne U17 (by first | decide | exact (fun z => absurd z.1 (by decide)) | omega)) (fun i => rU_ne U17 (by first | decide | exact (fun z => absurd z.1 (by decide)) | omega)) (fun i => rU_ne U17 (by first | decide | exact (fun z => absurd z.1 (by decide)) | omega))
    refine xgetD 30 (3) hH17 ⟨u115, _, rfl⟩ rfl (by decide) (by decide) rfl rfl (by decide) ?_
    refine xald 31 ⟨u115, _, rfl⟩ rfl rfl ?_
    refine xgetD 34 (8) hH17 ⟨u115, _, rfl⟩ rfl (by decide) (by decide) rfl rfl (by decide) ?_
    refine xcallC 37 (o := 3) [.ref 8] [] hH17 ⟨u115, _, rfl⟩ rfl rfl (by decide) rfl (by decide) rfl ⟨rfl, rfl, rfl, rfl⟩ rfl (k_cpB (o := 3) (o2 := 8) (Or.inl rfl) (Or.inr rfl) (by decide) hH17 B17 (fun hp34 hH34 F34 B34 n34 => ⟨_, rfl, ?_⟩))
    refine xald 38 ⟨u115, _, rfl⟩ rfl rfl ?_
    refine xgetD 41 (13) hH34 ⟨u115, _, rfl⟩ rfl (by decide) (by decide) rfl rfl (by decide) ?_
    refine xcallC 44 (o := 13) [] [] hH34 ⟨u115, _, rfl⟩ rfl rfl (by decide) rfl (by decide) rfl ⟨rfl, rfl, rfl, rfl⟩ rfl (k_tyr hH34 (fun hp41 hH41 F41 Z41 => ⟨_, rfl, ?_⟩))
    refine xald 45 ⟨u115, _, rfl⟩ rfl rfl ?_
    refine xgetD 48 (14) hH41 ⟨u115, _, rfl⟩ rfl (by decide) (by decide) rfl rfl (by decide) ?_
    refine xcallC 51 (o := 14) [] [] hH41 ⟨u115, _, rfl⟩ rfl rfl (by decide) rfl (by decide) rfl ⟨rfl, rfl, rfl, rfl⟩ rfl (k_fga hH41 (fun hp48 hH48 F48 d48 s48 => ⟨_, rfl, ?_⟩))
    refine xald 52 ⟨u115, _, rfl⟩ rfl rfl ?_
    refine xcst 53 (0) ⟨u115, _, rfl⟩ rfl (by decide) (fun z52 h52 => ?_)
    refine xputC 56 hH48 ⟨u115, _, rfl⟩ rfl (by decide) (by decide) rfl rfl (by decide) ⟨rfl, rfl⟩ (by omega) (by omega) (fun hp53 hH53 U53 => ?_)
    have s53 := U53.1
    refine xald 57 ⟨u115, _, rfl⟩ rfl rfl ?_
    refine xcallC 60 (o := 0) [] [] hH53 ⟨u115, _, rfl⟩ rfl rfl (by decide) rfl (by decide) rfl ⟨rfl, rfl, rfl, rfl⟩ rfl (k_stS hH53 (V := q.1) (T := q.2) (ty := fun _ => 0) (n := 0) (h := h) (sv := none) (bdOk_fr B34 ((rU_ne U53 (by first | decide | exact (fun z => absurd z.1 (by decide)) | omega)).trans ((r_fr F48 rfl).trans (r_fr F41 rfl))) (fun i => (rU_ne U53 (by first | decide | exact (fun z => absurd z.1 (by decide)) | omega)).trans ((r_fr F48 rfl).trans (r_fr F41 rfl))) (fun i => (rU_ne U53 (by first | decide | exact (fun z => absurd z.1 (by decide)) | omega)).trans ((r_fr F48 rfl).trans (r_fr F41 rfl)))) (fun i hi => ((rU_ne U53 (by first | decide | exact (fun z => absurd z.1 (by decide)) | omega)).trans (r_fr F48 rfl)).trans (Z41 i hi)) (hyC_fr (hyC_fga (hyC_fr (S17 hp17 (by rw [← h16]; exact U17)).2.2.2.2 (fun c k c1 c2 => (F41 c k (wTy_no c1)).trans (F34 c k (by simp; omega)))) F48 d48 s48) (fun c k c1 c2 => U53.2 c k (by omega))) (fun hp57 hH57 F57 S57 => ⟨_, rfl, ?_⟩))
    have one : ∀ i, rN hp57 1 i = rN hp17 1 i := fun i => by rw [show rN hp57 1 i = rN hp53 1 i from bFx_n F57 (by simp), rU_ne U53 (by first | decide | exact (fun z => absurd z.1 (by decide)) | omega), show rN hp48 1 i = rN hp41 1 i from r_fr F48 rfl, show rN hp41 1 i = rN hp34 1 i from r_fr F41 rfl, show rN hp34 1 i = rN hp17 1 i from bFx_n F34 (by simp)]
    refine xald 61 ⟨u115, _, rfl⟩ rfl rfl ?_
    refine xgetD 64 (3) hH57 ⟨u115, _, rfl⟩ rfl (by decide) (by decide) rfl rfl (by decide) ?_
    refine xgetC 67 hH57 ⟨u115, _, rfl⟩ rfl (by decide) (by decide) rfl rfl (by decide) (fun z64 h64 => ?_)
    exact xret ⟨u115, _, rfl⟩ rfl (hR _ hp57 hH57 (fun c k hc => (F57 c k (by simp; omega)).trans ((U53.2 c k (by omega)).trans ((F48 c k (wFg_no hc)).trans ((F41 c k (wTy_no (by omega))).trans ((F34 c k (by simp; omega)).trans ((U17.2 c k (by omega)).trans (F8 c k (by omega)))))))) (by rw [one 0]; omega) (by unfold rC3; rw [eq]; exact ⟨by rw [h64]; exact S57.2.1.1, by rw [one 1, rU_ne U17 (by first | decide | exact (fun z => absurd z.1 (by decide)) | omega)]; exact c8, by rw [one 2, rU_ne U17 (by first | decide | exact (fun z => absurd z.1 (by decide)) | omega)]; exact e8, S57⟩))
  · refine xcst 25 (-1) ⟨u115, _, rfl⟩ rfl (by decide) (fun z24 h24 => ?_)
    exact xret ⟨u115, _, rfl⟩ rfl (hR _ hp17 hH17 (fun c k hc => (U17.2 c k (by omega)).trans (F8 c k (by omega))) (by omega) (by unfold rRd at r8; unfold rC3; cases e : tRd y with | inl er => rw [e] at r8; exact ⟨by omega, (rU_ne U17 (by first | decide | exact (fun z => absurd z.1 (by decide)) | omega)).trans r8.2.1, (rU_ne U17 (by first | decide | exact (fun z => absurd z.1 (by decide)) | omega)).trans r8.2.2, S17 hp17 (by rw [← h16]; exact U17)⟩ | inr q => rw [e] at r8; have := r8.1; omega))
end
