/-! ===== the triples that meet a set dropped ===== -/
/-- the triples numbered below n that B says taken -/
def dP (B : Nat → Bool) (T : sT) : Nat → sT
  | 0 => T
  | n + 1 => if trB T n = true ∧ B n = true then sTake (dP B T n) (n / 15) (n % 15) (T (n / 15) (n % 15)).toNat else dP B T n
theorem dP_len {B : Nat → Bool} {T : sT} {n : Nat} : ∀ k, (trL T (n + k)).length = (trL T n).length → dP B T (n + k) = dP B T n
  | 0, _ => rfl
  | k + 1, h => by
    have e : (trL T (n + (k + 1))) = (if trB T (n + k) = true then trL T (n + k) ++ [n + k] else trL T (n + k)) := rfl
    have m := trL_mono (T := T) n k
    rw [e] at h
    split at h
    · rw [List.length_append, List.length_singleton] at h
      omega
    · next g =>
      have e2 : dP B T (n + (k + 1)) = dP B T (n + k) := by
        show (if _ then _ else _) = _
        rw [if_neg (fun z => g z.1)]
        rfl
      rw [e2]
      exact dP_len k h
theorem dP_eq {B : Nat → Bool} {T : sT} {n m : Nat} (h : (trL T n).length = (trL T m).length) : dP B T n = dP B T m := by
  rcases Nat.le_total n m with g | g
  · obtain ⟨k, rfl⟩ := Nat.exists_eq_add_of_le g
    exact (dP_len k h.symm).symm
  · obtain ⟨k, rfl⟩ := Nat.exists_eq_add_of_le g
    exact dP_len k h
/-- what is left -/
theorem dP_s {V : Nat} {B : Nat → Bool} {T : sT} (hT : sOk V T) : ∀ n, sOk V (dP B T n) ∧ ∀ u v, (dP B T n u v = -1 ∧ (T u v = -1 ∨ (cd T u v < n ∧ B (cd T u v) = true))) ∨ (dP B T n u v = T u v ∧ ¬ T u v = -1 ∧ ¬ (cd T u v < n ∧ B (cd T u v) = true))
  | 0 => ⟨hT, fun u v => by
    by_cases h : T u v = -1
    · exact Or.inl ⟨h, Or.inl h⟩
    · exact Or.inr ⟨rfl, h, by omega⟩⟩
  | n + 1 => by
    obtain ⟨i1, i2⟩ := dP_s hT n
    by_cases hb : trB T n = true ∧ B n = true
    · obtain ⟨z, ez, h1, h2, h3⟩ := tr_pts hT hb.1
      have e : dP B T (n + 1) = sTake (dP B T n) (n / 15) (n % 15) z := by
        show (if _ then _ else _) = _
        rw [if_pos hb, ez, Int.toNat_natCast]
      have q := fun u v hp => cd_pr hT (u := u) (v := v) hb.1 hp
      rw [ez, Int.toNat_natCast] at q
      have en : dP B T n (n / 15) (n % 15) = (z : Int) := by
        have c := (q (n / 15) (n % 15) ⟨by omega, by omega, by omega⟩).2.2
        rcases i2 (n / 15) (n % 15) with g | g
        · rcases g.2 with k | k
          · omega
          · omega
        · exact g.1.trans ez
      rw [e]
      refine ⟨sOk_take i1 en, fun u v => ?_⟩
      by_cases hp : sPr (n / 15) (n % 15) z u v
      · have c := q u v hp
        refine Or.inl ⟨by unfold sTake; rw [if_pos hp], Or.inr ⟨by omega, by rw [c.2.2]; exact hb.2⟩⟩
      · have s : sTake (dP B T n) (n / 15) (n % 15) z u v = dP B T n u v := by unfold sTake; rw [if_neg hp]
        rw [s]
        rcases i2 u v with g | g
        · exact Or.inl ⟨g.1, g.2.imp id (fun k => ⟨by omega, k.2⟩)⟩
        · refine Or.inr ⟨g.1, g.2.1, fun k => g.2.2 ⟨?_, k.2⟩⟩
          have c := (cd_of hT g.2.1).2.2
          by_cases w : cd T u v = n
          · rw [w, ez, Int.toNat_natCast] at c
            exact absurd c hp
          · omega
    · have e : dP B T (n + 1) = dP B T n := by
        show (if _ then _ else _) = _
        rw [if_neg hb]
      rw [e]
      refine ⟨i1, fun u v => ?_⟩
      rcases i2 u v with g | g
      · exact Or.inl ⟨g.1, g.2.imp id (fun k => ⟨by omega, k.2⟩)⟩
      · refine Or.inr ⟨g.1, g.2.1, fun k => g.2.2 ⟨?_, k.2⟩⟩
        by_cases w : cd T u v = n
        · exact absurd ⟨by rw [← w]; exact (cd_of hT g.2.1).1, by rw [← w]; exact k.2⟩ hb
        · omega
theorem dP_next {V : Nat} {B : Nat → Bool} {T : sT} (hT : sOk V T) {t m : Nat} (ht : t < (trL T 225).length) (hm : (trL T m).length = t) : ∃ n x y z : Nat, (trL T 225).getD t 0 = n ∧ mN T t = m3 x y z ∧ x < y ∧ y < z ∧ z < V ∧ (trL T (n + 1)).length = t + 1 ∧ dP B T m x y = (z : Int) ∧ (B n = true → dP B T (n + 1) = sTake (dP B T m) x y z) ∧ (¬ B n = true → dP B T (n + 1) = dP B T m) := by
  obtain ⟨g1, g2, g3⟩ := trL_get 225 t ht
  obtain ⟨z, ez, h1, h2, h3⟩ := tr_pts hT g1
  have em : mN T t = m3 ((trL T 225).getD t 0 / 15) ((trL T 225).getD t 0 % 15) z := by unfold mN mk3; rw [ez, Int.toNat_natCast]
  generalize hn : (trL T 225).getD t 0 = n at *
  have e : dP B T n = dP B T m := dP_eq (g3.trans hm.symm)
  have el : (trL T (n + 1)).length = t + 1 := by rw [trL_add g1, List.length_append, List.length_singleton, g3]
  refine ⟨n, n / 15, n % 15, z, rfl, em, h1, h2, h3, el, ?_, fun hb => ?_, fun hb => ?_⟩
  · rw [← e]
    have c := (cd_pr hT g1 (u := n / 15) (v := n % 15) (by rw [ez, Int.toNat_natCast]; exact ⟨by omega, by omega, by omega⟩)).2.2
    rcases (dP_s (B := B) hT n).2 (n / 15) (n % 15) with g | g
    · rcases g.2 with k | k <;> omega
    · exact g.1.trans ez
  · show (if _ then _ else _) = _
    rw [if_pos ⟨g1, hb⟩, e, ez, Int.toNat_natCast]
  · show (if _ then _ else _) = _
    rw [if_neg (fun k => hb k.2), e]
/-- whether the triple numbered n has c points of the set m -/
def mtB (T : sT) (m : Nat) (c : Int) (n : Nat) : Bool := decide (c ≤ bcN (mk3 T n &&& m))
theorem u27 : bUp 0 am_m27.1 = true := by decide +kernel
theorem l27E {d V m : Nat} {T : sT} {hp0 : amH} {R : xQ} {s wc : Int32} (hB0 : bdOk hp0 3 V T) (hL0 : lsN hp0 3 T 225) (hs : s.toInt = (m : Int)) (hm : m < 32768)
    (hR : ∀ (z : Int32) hp1, bHk 84 bTT hp1 → bFx [4, 6] hp0 hp1 → bdOk hp1 3 V (dP (mtB T m wc.toInt) T 225) → z.toInt + (((trL (dP (mtB T m wc.toInt) T 225) 225).length : Nat) : Int) = (((trL T 225).length : Nat) : Int) → R (.inl (some (.int z))) hp1) :
    ∀ (jj t k : Nat) (w wt : Int32) (hp : amH), wt.toInt = (t : Int) → t + jj = (trL T 225).length → (trL T k).length = t → bHk 84 bTT hp → bFx [4, 6] hp0 hp → bdOk hp 3 V (dP (mtB T m wc.toInt) T k) → w.toInt + (((trL (dP (mtB T m wc.toInt) T k) 225).length : Nat) : Int) = (((trL T 225).length : Nat) : Int) → w.toInt ≤ (t : Int) → 0 ≤ w.toInt → xV (d + 3) am_m27 5 [some (.ref 3), some (.int s), some (.int wc), some (.int w), some (.int wt)] [] hp R := by
  have hT := hB0.2.1
  have l35 := trL_35 hT 225
  intro jj
  induction jj with
  | zero =>
    intro t k w wt hp hwt hj hk hH hF hB hw hle hge
    have e1 : rN hp 3 1 = rN hp0 3 1 := bFx_n hF (by simp)
    have L1 := hL0.1
    have eT : dP (mtB T m wc.toInt) T k = dP (mtB T m wc.toInt) T 225 := dP_eq (by omega)
    rw [eT] at hB hw
    refine xild2 7 ⟨u27, _, rfl⟩ rfl rfl ?_
    refine xald 8 ⟨u27, _, rfl⟩ rfl rfl ?_
    refine xgetC 11 hH ⟨u27, _, rfl⟩ rfl (by decide) (by decide) rfl rfl (by decide) (fun z8 h8 => ?_)
    refine xcmp_ge 14 ⟨u27, _, rfl⟩ rfl (fun c11 => ?_) (fun c11 => ?_)
    · refine xild 49 ⟨u27, _, rfl⟩ rfl rfl ?_
      exact xret ⟨u27, _, rfl⟩ rfl (hR _ hp hH hF hB hw)
    · omega
  | succ jj ih =>
    intro t k w wt hp hwt hj hk hH hF hB hw hle hge
    have e1 : rN hp 3 1 = rN hp0 3 1 := bFx_n hF (by simp)
    have L1 := hL0.1
    have hL : lsN hp 3 T 225 := lsN_fr hL0 (bFx_n hF (by simp)) (fun _ => bFx_n hF (by simp)) (fun _ => bFx_n hF (by simp))
    obtain ⟨n, x, y, z, q1, q2, q3, q4, q5, q6, q7, q8, q9⟩ := dP_next (B := mtB T m wc.toInt) hT (t := t) (by omega) hk
    have ml := (mN_lt hT (show t < (trL T 225).length by omega)).1
    have hmt : mtB T m wc.toInt n = true ↔ wc.toInt ≤ bcN (mN T t &&& m) := by
      unfold mtB mN
      rw [decide_eq_true_iff, q1]
    refine xild2 7 ⟨u27, _, rfl⟩ rfl rfl ?_
    refine xald 8 ⟨u27, _, rfl⟩ rfl rfl ?_
    refine xgetC 11 hH ⟨u27, _, rfl⟩ rfl (by decide) (by decide) rfl rfl (by decide) (fun z8 h8 => ?_)
    refine xcmp_ge 14 ⟨u27, _, rfl⟩ rfl (fun c11 => ?_) (fun c11 => ?_)
    · omega
    · refine xald 15 ⟨u27, _, rfl⟩ rfl rfl ?_
      refine xild2 17 ⟨u27, _, rfl⟩ rfl rfl ?_
      refine xcallC 20 (o := 3) [.int _] [] hH ⟨u27, _, rfl⟩ rfl rfl (by decide) rfl (by decide) rfl ⟨rfl, rfl, rfl, rfl⟩ rfl (k_setL hH hL (t := t) (by omega) (by omega) (fun z17 h17 => ⟨_, rfl, ?_⟩))
      refine xild 21 ⟨u27, _, rfl⟩ rfl rfl ?_
      refine xand 22 ⟨u27, _, rfl⟩ rfl ?_
      refine xcallS 25 [.int _] [] hH ⟨u27, _, rfl⟩ rfl rfl rfl rfl rfl (k_bc (i_and h17 hs ml).1 (fun z22 h22 => ⟨_, rfl, ?_⟩))
      refine xild 26 ⟨u27, _, rfl⟩ rfl rfl ?_
      refine xcmp_lt 29 ⟨u27, _, rfl⟩ rfl (fun c26 => ?_) (fun c26 => ?_)
      · refine xinc 45 (1) ⟨u27, _, rfl⟩ rfl rfl rfl (by decide) (by omega) (by omega) (fun z42 h42 => ?_)
        refine xgoto ⟨u27, _, rfl⟩ ?_
        have hb := q9 (fun z => by have := hmt.mp z; omega)
        exact ih (t + 1) (n + 1) _ _ hp (by omega) (by omega) q6 hH hF (by rw [hb]; exact hB) (by rw [hb]; exact hw) (by omega) hge
      · refine xald 30 ⟨u27, _, rfl⟩ rfl rfl ?_
        refine xald 31 ⟨u27, _, rfl⟩ rfl rfl ?_
        refine xild2 33 ⟨u27, _, rfl⟩ rfl rfl ?_
        refine xcallC 36 (o := 3) [.int _] [.ref 3] hH ⟨u27, _, rfl⟩ rfl rfl (by decide) rfl (by decide) rfl ⟨rfl, rfl, rfl, rfl⟩ rfl (k_setL hH hL (t := t) (by omega) (by omega) (fun z33 h33 => ⟨_, rfl, ?_⟩))
        refine xcallC 39 (o := 3) [.int _] [] hH ⟨u27, _, rfl⟩ rfl rfl (by decide) rfl (by decide) rfl ⟨rfl, rfl, rfl, rfl⟩ rfl (k_bdrop (o := 3) (Or.inl rfl) hH hB (by rw [h33, q2]) q3 q4 q7 (fun hp36 hH36 F36 B36 => ⟨_, rfl, ?_⟩))
        refine xinc 42 (1) ⟨u27, _, rfl⟩ rfl rfl rfl (by decide) (by omega) (by omega) (fun z39 h39 => ?_)
        refine xinc 45 (1) ⟨u27, _, rfl⟩ rfl rfl rfl (by decide) (by omega) (by omega) (fun z42 h42 => ?_)
        refine xgoto ⟨u27, _, rfl⟩ ?_
        have lt := len_take hB.2.1 q7
        have hb := q8 (hmt.mpr (by omega))
        exact ih (t + 1) (n + 1) _ _ hp36 (by omega) (by omega) q6 hH36 (hF.trans (F36.mono (by simp))) (by rw [hb]; exact B36) (by rw [hb]; omega) (by omega) (by omega)
theorem k_27E {d V m : Nat} {T : sT} {hp : amH} {R : xQ} {s wc : Int32} (hH : bHk 84 bTT hp) (hB : bdOk hp 3 V T) (hL : lsN hp 3 T 225) (hs : s.toInt = (m : Int)) (hm : m < 32768)
    (hR : ∀ (z : Int32) hp1, bHk 84 bTT hp1 → bFx [4, 6] hp hp1 → bdOk hp1 3 V (dP (mtB T m wc.toInt) T 225) → z.toInt + (((trL (dP (mtB T m wc.toInt) T 225) 225).length : Nat) : Int) = (((trL T 225).length : Nat) : Int) → R (.inl (some (.int z))) hp1) : xK (d + 3) 27 [.ref 3, .int s, .int wc] hp R := by
  refine xin (M := am_m27) rfl rfl rfl ?_
  refine xcst 1 (0) ⟨u27, _, rfl⟩ rfl (by decide) (fun z0 h0 => ?_)
  refine xist 2 ⟨u27, _, rfl⟩ rfl rfl ?_
  refine xcst 3 (0) ⟨u27, _, rfl⟩ rfl (by decide) (fun z2 h2 => ?_)
  refine xist2 5 ⟨u27, _, rfl⟩ rfl rfl ?_
  exact l27E hB hL hs hm hR (trL T 225).length 0 0 _ _ hp (by omega) (by omega) rfl hH bFx.refl hB (by rw [h0]; show (0 : Int) + _ = _; rw [Int.zero_add]; rfl) (by omega) (by omega)
