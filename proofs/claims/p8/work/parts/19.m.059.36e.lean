/-! ===== all turns of a triple, on both sides ===== -/
def dCd (V : Nat) (T : sT) (a b c : Int) : Int := if ¬ gSet V a b c = 0 then gSet V a b c else match sDv V a.toNat b.toNat c.toNat V 0 T 0 with
  | none => 3
  | some _ => 0
theorem dCd_1 {V : Nat} {T : sT} {a b c : Int} (h : ¬ gSet V a b c = 0) : dCd V T a b c = gSet V a b c := by unfold dCd; rw [if_pos h]
theorem dCd_2 {V : Nat} {T : sT} {a b c : Int} {q : sT × Nat} (h : gSet V a b c = 0) (h2 : sDv V a.toNat b.toNat c.toNat V 0 T 0 = some q) : dCd V T a b c = 0 := by unfold dCd; rw [if_neg (fun z => z h), h2]
theorem dCd_3 {V : Nat} {T : sT} {a b c : Int} (h : gSet V a b c = 0) (h2 : sDv V a.toNat b.toNat c.toNat V 0 T 0 = none) : dCd V T a b c = 3 := by unfold dCd; rw [if_neg (fun z => z h), h2]
theorem clS_8 {hp hp1 : amH} {q : sR} {n : Nat} {h : Nat → sR} {sv : Option sR} (hS : clS hp q n h sv) (F : ∀ c k, (3 ≤ c ∧ c < 8) ∨ (13 ≤ c ∧ c ≤ 51) → bFld hp1 c k = bFld hp c k) : clS hp1 q n h sv :=
  ⟨bdOk_fr hS.1 (rN_eq (F _ _ (by omega))) (fun _ => rN_eq (F _ _ (by omega))) (fun _ => rN_eq (F _ _ (by omega))), lsN_fr hS.2.1 (rN_eq (F _ _ (by omega))) (fun _ => rN_eq (F _ _ (by omega))) (fun _ => rN_eq (F _ _ (by omega))), qdN_fr hS.2.2.1 (fun c k hc => F c k (by omega)), fun i hi => (rN_eq (F 13 i (by omega))).trans (hS.2.2.2.1 i hi), hyC_fr hS.2.2.2.2 (fun c k c1 c2 => F c k (by omega))⟩
theorem u128 : bUp 0 am_m128.1 = true := by decide +kernel
theorem k_128E {d V n : Nat} {h : Nat → sR} {sv : Option sR} {T : sT} {ty : Nat → Int} {hp : amH} {R : xQ} {a b c : Int32} (hH : bHk 84 bTT hp) (hS : clS hp (V, T, ty) n h sv)
    (hT : ∀ E hp1, bHk 84 bTT hp1 → cF hp hp1 → clS hp1 (V, T, ty) n h sv → ¬ dCd V T a.toInt b.toInt c.toInt = 0 → exE (dCd V T a.toInt b.toInt c.toInt) E → R (.inr E) hp1)
    (hR : ∀ (z : Int32) hp1 q, bHk 84 bTT hp1 → cF hp hp1 → dCd V T a.toInt b.toInt c.toInt = 0 → sDv V a.toInt.toNat b.toInt.toNat c.toInt.toNat V 0 T 0 = some q → clS hp1 (V, q.1, ty) (pM n + 1) (pH n h (V, T, ty)) sv → z.toInt = (q.2 : Int) → R (.inl (some (.int z))) hp1) : xK (d + 6) 128 [.ref 0, .int a, .int b, .int c] hp R := by
  have hB : bdOk hp 3 V T := hS.1
  have hV := hB.2.1.2.1
  refine xin (M := am_m128) rfl rfl rfl ?_
  refine xald 1 ⟨u128, _, rfl⟩ rfl rfl ?_
  refine xild 2 ⟨u128, _, rfl⟩ rfl rfl ?_
  refine xild 3 ⟨u128, _, rfl⟩ rfl rfl ?_
  refine xild 4 ⟨u128, _, rfl⟩ rfl rfl ?_
  refine xcallT 7 (o := 0) [.int _, .int _, .int _] [] hH ⟨u128, _, rfl⟩ rfl rfl (by decide) rfl (by decide) rfl ⟨rfl, rfl, rfl, rfl⟩ rfl (k_rq3 hH hB.1 (fun g4 => Or.inl ⟨_, rfl, ?_⟩) (fun g4 => Or.inr ⟨_, rfl, rfl, hT 1 hp hH cF.refl hS (by rw [dCd_1 (by omega)]; omega) (by rw [dCd_1 (by omega)]; exact Or.inl ⟨g4, rfl⟩)⟩) (fun g4 => Or.inr ⟨_, rfl, rfl, hT 0 hp hH cF.refl hS (by rw [dCd_1 (by omega)]; omega) (by rw [dCd_1 (by omega)]; exact Or.inr (Or.inl ⟨g4, rfl⟩))⟩))
  have k4 := gSet_0.mp g4
  refine xald 8 ⟨u128, _, rfl⟩ rfl rfl ?_
  refine xgetD 11 (8) hH ⟨u128, _, rfl⟩ rfl (by decide) (by decide) rfl rfl (by decide) ?_
  refine xald 12 ⟨u128, _, rfl⟩ rfl rfl ?_
  refine xgetD 15 (3) hH ⟨u128, _, rfl⟩ rfl (by decide) (by decide) rfl rfl (by decide) ?_
  refine xcallC 18 (o := 8) [.ref 3] [] hH ⟨u128, _, rfl⟩ rfl rfl (by decide) rfl (by decide) rfl ⟨rfl, rfl, rfl, rfl⟩ rfl (k_cpB (o := 8) (o2 := 3) (Or.inr rfl) (Or.inl rfl) (by decide) hH hB (fun hp15 hH15 F15 B15 n15 => ⟨_, rfl, ?_⟩))
  refine xald 19 ⟨u128, _, rfl⟩ rfl rfl ?_
  refine xgetD 22 (8) hH15 ⟨u128, _, rfl⟩ rfl (by decide) (by decide) rfl rfl (by decide) ?_
  refine xild 23 ⟨u128, _, rfl⟩ rfl rfl ?_
  refine xild 24 ⟨u128, _, rfl⟩ rfl rfl ?_
  refine xild 25 ⟨u128, _, rfl⟩ rfl rfl ?_
  refine xcallS 28 [.int _, .int _, .int _] [.ref 8] hH15 ⟨u128, _, rfl⟩ rfl rfl rfl rfl rfl (k_three (x := a.toInt.toNat) (y := b.toInt.toNat) (z := c.toInt.toNat) (by omega) (by omega) (by omega) (by omega) (by omega) (by omega) (fun z25 h25 => ⟨_, rfl, ?_⟩))
  refine xcallC 31 (o := 8) [.int _] [] hH15 ⟨u128, _, rfl⟩ rfl rfl (by decide) rfl (by decide) rfl ⟨rfl, rfl, rfl, rfl⟩ rfl (k_pat (o := 8) (Or.inr rfl) hH15 B15 (a := a.toInt.toNat) (b := b.toInt.toNat) (c := c.toInt.toNat) h25 (by omega) (by omega) (by omega) (by omega) (by omega) (by omega) (fun z28 hp28 hH28 F28 V28 => ⟨_, rfl, ?_⟩))
  have S28 : clS hp28 (V, T, ty) n h sv := clS_8 hS (fun c k hc => (F28 c k (by simp; omega)).trans (F15 c k (by simp; omega)))
  have c28 : cF hp hp28 := (cF_x F15 (by simp)).trans (cF_x F28 (by simp))
  refine xist2 33 ⟨u128, _, rfl⟩ rfl rfl ?_
  refine xild2 35 ⟨u128, _, rfl⟩ rfl rfl ?_
  refine xcst 36 (-1) ⟨u128, _, rfl⟩ rfl (by decide) (fun z35 h35 => ?_)
  refine xcmp_ne 39 ⟨u128, _, rfl⟩ rfl (fun c36 => ?_) (fun c36 => ?_)
  · obtain ⟨q, ds⟩ : ∃ q, sDv V a.toInt.toNat b.toInt.toNat c.toInt.toNat V 0 T 0 = some q := by
      cases e : sDv V a.toInt.toNat b.toInt.toNat c.toInt.toNat V 0 T 0 with
      | none => rw [e] at V28; have V28 : Int32.toInt z28 = -1 := V28; omega
      | some q => exact ⟨q, rfl⟩
    rw [ds] at V28
    have V28 : z28.toInt = (q.2 : Int) ∧ bdOk hp28 8 V q.1 := V28
    refine xald 50 ⟨u128, _, rfl⟩ rfl rfl ?_
    refine xcallC 53 (o := 0) [] [] hH28 ⟨u128, _, rfl⟩ rfl rfl (by decide) rfl (by decide) rfl ⟨rfl, rfl, rfl, rfl⟩ rfl (k_cmS hH28 S28 (fun hp50 hH50 F49 S49 => ⟨_, rfl, ?_⟩))
    refine xald 54 ⟨u128, _, rfl⟩ rfl rfl ?_
    refine xgetD 57 (3) hH50 ⟨u128, _, rfl⟩ rfl (by decide) (by decide) rfl rfl (by decide) ?_
    refine xald 58 ⟨u128, _, rfl⟩ rfl rfl ?_
    refine xgetD 61 (8) hH50 ⟨u128, _, rfl⟩ rfl (by decide) (by decide) rfl rfl (by decide) ?_
    refine xcallC 64 (o := 3) [.ref 8] [] hH50 ⟨u128, _, rfl⟩ rfl rfl (by decide) rfl (by decide) rfl ⟨rfl, rfl, rfl, rfl⟩ rfl (k_cpB (o := 3) (o2 := 8) (Or.inl rfl) (Or.inr rfl) (by decide) hH50 (bdOk_fr V28.2 (hyF_n F49 (by omega)) (fun _ => hyF_n F49 (by omega)) (fun _ => hyF_n F49 (by omega))) (fun hp61 hH61 F61 B61 n61 => ⟨_, rfl, ?_⟩))
    refine xald 65 ⟨u128, _, rfl⟩ rfl rfl ?_
    refine xcallC 68 (o := 0) [] [] hH61 ⟨u128, _, rfl⟩ rfl rfl (by decide) rfl (by decide) rfl ⟨rfl, rfl, rfl, rfl⟩ rfl (k_stS hH61 (ty := ty) B61 (fun i hi => (bFx_n F61 (by simp)).trans (S49.2.2.2.1 i hi)) (hyC_fr S49.2.2.2.2 (fun c k c1 c2 => F61 c k (by simp; omega))) (fun hp65 hH65 F65 S65 => ⟨_, rfl, ?_⟩))
    refine xild2 70 ⟨u128, _, rfl⟩ rfl rfl ?_
    exact xret ⟨u128, _, rfl⟩ rfl (hR _ hp65 q hH65 (c28.trans ((cF_hy F49).trans ((cF_x F61 (by simp)).trans (cF_x F65 (by simp))))) (dCd_2 g4 ds) ds S65 V28.1)
  · have dn : sDv V a.toInt.toNat b.toInt.toNat c.toInt.toNat V 0 T 0 = none := by
      cases e : sDv V a.toInt.toNat b.toInt.toNat c.toInt.toNat V 0 T 0 with
      | none => rfl
      | some q => rw [e] at V28; have := V28.1; omega
    exact xthr ⟨u128, _, rfl⟩ (by decide) rfl (by decide) (hT 2 hp28 hH28 c28 S28 (by rw [dCd_3 g4 dn]; decide) (by rw [dCd_3 g4 dn]; exact Or.inr (Or.inr ⟨rfl, rfl⟩)))
