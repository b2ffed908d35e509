/-! ##### 19.m.058.36d ##### -/
section
/-! ===== the reference: a triple removed, all that cover a pair, developed ===== -/
theorem k_273E {d V n : Nat} {h : Nat → sR} {sv : Option sR} {T : sT} {ty : Nat → Int} {hp : amH} {R : xQ} {t : Int32} (hH : bHk 84 bTT hp) (hP : P0 hp) (hS : rfS hp (V, T, ty) n h sv)
    (hR : ∀ (z : Int32) hp1, bHk 84 bTT hp1 → P0 hp1 → bFr wM hp hp1 → rN hp1 66 7 = gTri (trL T 225).length t.toInt → ((¬ gTri (trL T 225).length t.toInt = 0 ∧ rfS hp1 (V, T, ty) n h sv) ∨ (gTri (trL T 225).length t.toInt = 0 ∧ rfS hp1 (V, tkT T t.toInt.toNat, ty) (pM n + 1) (pH n h (V, T, ty)) sv ∧ z.toInt = (((trL (tkT T t.toInt.toNat) 225).length : Nat) : Int))) → R (.inl (some (.int z))) hp1) : xK (d + 3) 273 [.ref 66, .int t] hp R := by
  have hT : sOk V T := hS.1.2.1
  have l35 := trL_35 hT 225
  refine xin (M := am_m273) rfl rfl rfl ?_
  refine xald 1 ⟨u273, _, rfl⟩ rfl rfl ?_
  refine xild 2 ⟨u273, _, rfl⟩ rfl rfl ?_
  refine xcall 5 [.ref 66, .int _] [] hH ⟨u273, _, rfl⟩ rfl rfl rfl rfl rfl (k_gpt hH (V := V) (T := T) (rowOk_rd hS.1) (fun z2 hp2 hH2 F2 B2 L2 t2 o2 => ⟨_, rfl, ?_⟩))
  have S2 := rfS_W hS F2 (fun _ => rfl) rfl rfl (fun _ => rfl) (fun _ => rfl)
  have P2 : P0 hp2 := P0_W (W := (66, 7) :: bLT) (by decide) F2 hP
  refine xif_eq 8 ⟨u273, _, rfl⟩ rfl (fun c5 => ?_) (fun c5 => ?_)
  · have g2 : gTri (trL T 225).length t.toInt = 0 := by omega
    have k2 := gTri_0.mp g2
    obtain ⟨q1, q2, q3⟩ := trL_get 225 t.toInt.toNat (show t.toInt.toNat < (trL T 225).length by omega)
    obtain ⟨z, ez, x1, x2, x3⟩ := tr_pts hT q1
    have etk : tkT T t.toInt.toNat = sTake T ((trL T 225).getD t.toInt.toNat 0 / 15) ((trL T 225).getD t.toInt.toNat 0 % 15) z := by unfold tkT; rw [ez, Int.toNat_natCast]
    have lt := len_take hT ez
    rw [← etk] at lt
    refine xald 11 ⟨u273, _, rfl⟩ rfl rfl ?_
    refine xcall 14 [.ref 66] [] hH2 ⟨u273, _, rfl⟩ rfl rfl rfl rfl rfl (k_rmS hH2 P2 S2 (fun hp11 hH11 P11 F11 S11 => ⟨_, rfl, ?_⟩))
    refine xald 15 ⟨u273, _, rfl⟩ rfl rfl ?_
    refine xald 16 ⟨u273, _, rfl⟩ rfl rfl ?_
    refine xgetR 19 72 hH11 ⟨u273, _, rfl⟩ rfl rfl ?_
    refine xild 20 ⟨u273, _, rfl⟩ rfl rfl ?_
    refine xiald 21 (t).toInt.toNat hH11 ⟨u273, _, rfl⟩ rfl (by decide) rfl (by omega) (by omega) (fun z20 h20 => ?_)
    refine xald 22 ⟨u273, _, rfl⟩ rfl rfl ?_
    refine xgetR 25 73 hH11 ⟨u273, _, rfl⟩ rfl rfl ?_
    refine xild 26 ⟨u273, _, rfl⟩ rfl rfl ?_
    refine xiald 27 (t).toInt.toNat hH11 ⟨u273, _, rfl⟩ rfl (by decide) rfl (by omega) (by omega) (fun z26 h26 => ?_)
    refine xald 28 ⟨u273, _, rfl⟩ rfl rfl ?_
    refine xgetR 31 74 hH11 ⟨u273, _, rfl⟩ rfl rfl ?_
    refine xild 32 ⟨u273, _, rfl⟩ rfl rfl ?_
    refine xiald 33 (t).toInt.toNat hH11 ⟨u273, _, rfl⟩ rfl (by decide) rfl (by omega) (by omega) (fun z32 h32 => ?_)
    have L11 : rlN hp11 T 225 := rlN_fr L2 (r_fr F11 rfl) (fun _ => r_fr F11 rfl) (fun _ => r_fr F11 rfl) (fun _ => r_fr F11 rfl) (fun _ => r_fr F11 rfl)
    obtain ⟨o1, o2, o3, -⟩ := L11.2 t.toInt.toNat (by omega)
    have M11 := L11.1
    rw [ez] at o3
    refine xcall 36 [.ref 66, .int _, .int _, .int _] [] hH11 ⟨u273, _, rfl⟩ rfl rfl rfl rfl rfl (k_tkR hH11 P11 S11.1 (x := (trL T 225).getD t.toInt.toNat 0 / 15) (y := (trL T 225).getD t.toInt.toNat 0 % 15) (z := z) (h20.trans o1) (h26.trans o2) (h32.trans o3) ez (fun hp33 hH33 P33 F33 C33 => ⟨_, rfl, ?_⟩))
    have S33 := rfS_67 S11 F33 C33
    rw [← etk] at S33
    have m33 : rN hp33 66 12 = rN hp11 66 12 := r_fr F33 rfl
    refine xald 37 ⟨u273, _, rfl⟩ rfl rfl ?_
    refine xgetI 40 hH33 ⟨u273, _, rfl⟩ rfl rfl (fun z37 h37 => ?_)
    refine xcst 41 (1) ⟨u273, _, rfl⟩ rfl (by decide) (fun z40 h40 => ?_)
    refine xsub 42 _ ⟨u273, _, rfl⟩ rfl rfl (by omega) (by omega) (fun z41 h41 => ?_)
    exact xret ⟨u273, _, rfl⟩ rfl (hR _ hp33 hH33 P33 (((bFr_sub F2 (by decide)).trans (bFr_sub F11 (by decide))).trans (bFr_sub F33 (by decide))) (by rw [show rN hp33 66 7 = rN hp11 66 7 from r_fr F33 rfl, show rN hp11 66 7 = rN hp2 66 7 from r_fr F11 rfl]; exact t2) (Or.inr ⟨g2, S33, by omega⟩))
  · refine xcst 9 (0) ⟨u273, _, rfl⟩ rfl (by decide) (fun z8 h8 => ?_)
    exact xret ⟨u273, _, rfl⟩ rfl (hR _ hp2 hH2 P2 (bFr_sub F2 (by decide)) t2 (Or.inl ⟨by omega, S2⟩))
/-- a pair's triple taken, if there is one -/
noncomputable def rmT (T : sT) (x y : Nat) : sT := if T x y = -1 then T else sTake T x y (T x y).toNat
theorem k_277E {d V n x y : Nat} {h : Nat → sR} {sv : Option sR} {T : sT} {ty : Nat → Int} {hp : amH} {R : xQ} {a b : Int32} (hH : bHk 84 bTT hp) (hP : P0 hp) (hS : rfS hp (V, T, ty) n h sv) (ha : a.toInt = (x : Int)) (hb : b.toInt = (y : Int)) (hx : x < V) (hy : y < V)
    (hR : ∀ (z : Int32) hp1, bHk 84 bTT hp1 → P0 hp1 → bFr [(67, 999)] hp hp1 → rfS hp1 (V, rmT T x y, ty) n h sv → z.toInt = cvT T x y → (z.toInt = 0 ∨ z.toInt = 1) → R (.inl (some (.int z))) hp1) : xK (d + 2) 277 [.ref 66, .int a, .int b] hp R := by
  have hT : sOk V T := hS.1.2.1
  have hV := hT.2.1
  refine xin (M := am_m277) rfl rfl rfl ?_
  refine xald 1 ⟨u277, _, rfl⟩ rfl rfl ?_
  refine xild 2 ⟨u277, _, rfl⟩ rfl rfl ?_
  refine xild 3 ⟨u277, _, rfl⟩ rfl rfl ?_
  refine xcall 6 [.ref 66, .int _, .int _] [] hH ⟨u277, _, rfl⟩ rfl rfl rfl rfl rfl (k_third hH (by omega) (by omega) (by omega) (by omega) (fun z3 h3 => ⟨_, rfl, ?_⟩))
  rw [show a.toInt.toNat = x by omega, show b.toInt.toNat = y by omega, (rowOk_rd hS.1).2.2.1 x y (by omega) (by omega)] at h3
  have h3 : z3.toInt = T x y := h3
  refine xist 7 ⟨u277, _, rfl⟩ rfl rfl ?_
  refine xild 8 ⟨u277, _, rfl⟩ rfl rfl ?_
  refine xcst 9 (-1) ⟨u277, _, rfl⟩ rfl (by decide) (fun z8 h8 => ?_)
  refine xcmp_ne 12 ⟨u277, _, rfl⟩ rfl (fun c9 => ?_) (fun c9 => ?_)
  · obtain ⟨w, ew, -⟩ := sOk_at hT (rfl : T x y = _) (by omega)
    refine xald 15 ⟨u277, _, rfl⟩ rfl rfl ?_
    refine xild 16 ⟨u277, _, rfl⟩ rfl rfl ?_
    refine xild 17 ⟨u277, _, rfl⟩ rfl rfl ?_
    refine xild 18 ⟨u277, _, rfl⟩ rfl rfl ?_
    refine xcall 21 [.ref 66, .int _, .int _, .int _] [] hH ⟨u277, _, rfl⟩ rfl rfl rfl rfl rfl (k_tkR hH hP hS.1 (x := x) (y := y) (z := w) ha hb (by omega) ew (fun hp18 hH18 P18 F18 C18 => ⟨_, rfl, ?_⟩))
    have S18 := rfS_67 hS F18 C18
    refine xcst 22 (1) ⟨u277, _, rfl⟩ rfl (by decide) (fun z21 h21 => ?_)
    exact xret ⟨u277, _, rfl⟩ rfl (hR _ hp18 hH18 P18 F18 (by rw [show rmT T x y = sTake T x y w by unfold rmT; rw [if_neg (by omega), ew, Int.toNat_natCast]]; exact S18) (by unfold cvT; rw [if_neg (by omega)]; exact h21) (Or.inr h21))
  · refine xcst 13 (0) ⟨u277, _, rfl⟩ rfl (by decide) (fun z12 h12 => ?_)
    exact xret ⟨u277, _, rfl⟩ rfl (hR _ hp hH hP (bFr.refl _ _) (by rw [show rmT T x y = T by unfold rmT; rw [if_pos (by omega)]]; exact hS) (by unfold cvT; rw [if_pos (by omega)]; exact h12) (Or.inl h12))
end
/-! ##### 19.m.059.36e ##### -/
section
/-! ===== all turns of a triple, on both sides ===== -/
noncomputable def dCd (V : Nat) (T : sT) (a b c : Int) : Int := if ¬ gSet V a b c = 0 then gSet V a b c else match sDv V a.toNat b.toNat c.toNat V 0 T 0 with
  | none => 3
  | some _ => 0
theorem dCd_1 {V : Nat} {T : sT} {a b c : Int} (h : ¬ gSet V a b c = 0) : dCd V T a b c = gSet V a b c := by unfold dCd; rw [if_pos h]
theorem dCd_2 {V : Nat} {T : sT} {a b c : Int} {q : sT × Nat} (h : gSet V a b c = 0) (h2 : sDv V a.toNat b.toNat c.toNat V 0 T 0 = some q) : dCd V T a b c = 0 := by unfold dCd; rw [if_neg (fun z => z h), h2]
theorem dCd_3 {V : Nat} {T : sT} {a b c : Int} (h : gSet V a b c = 0) (h2 : sDv V a.toNat b.toNat c.toNat V 0 T 0 = none) : dCd V T a b c = 3 := by unfold dCd; rw [if_neg (fun z => z h), h2]
theorem clS_8 {hp hp1 : amH} {q : sR} {n : Nat} {h : Nat → sR} {sv : Option sR} (hS : clS hp q n h sv) (F : ∀ c k, (3 ≤ c ∧ c < 8) ∨ (13 ≤ c ∧ c ≤ 51) → bFld hp1 c k = bFld hp c k) : clS hp1 q n h sv :=
  ⟨bdOk_fr hS.1 (rN_eq (F _ _ (by omega))) (fun _ => rN_eq (F _ _ (by omega))) (fun _ => rN_eq (F _ _ (by omega))), lsN_fr hS.2.1 (rN_eq (F _ _ (by omega))) (fun _ => rN_eq (F _ _ (by omega))) (fun _ => rN_eq (F _ _ (by omega))), qdN_fr hS.2.2.1 (fun c k hc => F c k (by omega)), fun i hi => (rN_eq (F 13 i (by omega))).trans (hS.2.2.2.1 i hi), hyC_fr hS.2.2.2.2 (fun c k c1 c2 => F c k (by omega))⟩
theorem u128 : bUp 0 am_m128.1 = true := by decide +kernel
theorem k_128E {d V n : Nat} {h : Nat → sR} {sv : Option sR} {T : sT} {ty : Nat → Int} {hp : amH} {R : xQ} {a b c : Int32} (hH : bHk 84 bTT hp) (hS : clS hp (V, T, ty) n h sv)
    (hT : ∀ E hp1, bHk 84 bTT hp1 → cF hp hp1 → clS hp1 (V, T, ty) n h sv → ¬ dCd V T a.toInt b.toInt c.toInt = 0 → exE (dCd V T a.toInt b.toInt c.toInt) E → R (.inr E) hp1)
    (hR : ∀ (z : Int32) hp1 q, bHk 84 bTT hp1 → cF hp hp1 → dCd V T a.toInt b.toInt c.toInt = 0 → sDv V a.toInt.toNat b.toInt.toNat c.toInt.toNat V 0 T 0 = some q → clS hp1 (V, q.1, ty) (pM n + 1) (pH n h (V, T, ty)) sv → z.toInt = (q.2 : Int) → R (.inl (some (.int z))) hp1) : xK (d + 6) 128 [.ref 0, .int a, .int b, .int c] hp R := by
  have hB : bdOk hp 3 V T := hS.1
  have hV := hB.2.1.2.1
  refine xin (M := am_m128) rfl rfl rfl ?_
  refine xald 1 ⟨u128, _, rfl⟩ rfl rfl ?_
  refine xild 2 ⟨u128, _, rfl⟩ rfl rfl ?_
  refine xild 3 ⟨u128, _, rfl⟩ rfl rfl ?_
  refine xild 4 ⟨u128, _, rfl⟩ rfl rfl ?_
  refine xcallT 7 (o := 0) [.int _, .int _, .int _] [] hH ⟨u128, _, rfl⟩ rfl rfl (by decide) rfl (by decide) rfl ⟨rfl, rfl, rfl, rfl⟩ rfl (k_rq3 hH hB.1 (fun g4 => Or.inl ⟨_, rfl, ?_⟩) (fun g4 => Or.inr ⟨_, rfl, rfl, hT 1 hp hH cF.refl hS (by rw [dCd_1 (by omega)]; omega) (by rw [dCd_1 (by omega)]; exact Or.inl ⟨g4, rfl⟩)⟩) (fun g4 => Or.inr ⟨_, rfl, rfl, hT 0 hp hH cF.refl hS (by rw [dCd_1 (by omega)]; omega) (by rw [dCd_1 (by omega)]; exact Or.inr (Or.inl ⟨g4, rfl⟩))⟩))
  have k4 := gSet_0.mp g4
  refine xald 8 ⟨u128, _, rfl⟩ rfl rfl ?_
  refine xgetD 11 (8) hH ⟨u128, _, rfl⟩ rfl (by decide) (by decide) rfl rfl (by decide) ?_
  refine xald 12 ⟨u128, _, rfl⟩ rfl rfl ?_
  refine xgetD 15 (3) hH ⟨u128, _, rfl⟩ rfl (by decide) (by decide) rfl rfl (by decide) ?_
  refine xcallC 18 (o := 8) [.ref 3] [] hH ⟨u128, _, rfl⟩ rfl rfl (by decide) rfl (by decide) rfl ⟨rfl, rfl, rfl, rfl⟩ rfl (k_cpB (o := 8) (o2 := 3) (Or.inr rfl) (Or.inl rfl) (by decide) hH hB (fun hp15 hH15 F15 B15 n15 => ⟨_, rfl, ?_⟩))
  refine xald 19 ⟨u128, _, rfl⟩ rfl rfl ?_
  refine xgetD 22 (8) hH15 ⟨u128, _, rfl⟩ rfl (by decide) (by decide) rfl rfl (by decide) ?_
  refine xild 23 ⟨u128, _, rfl⟩ rfl rfl ?_
  refine xild 24 ⟨u128, _, rfl⟩ rfl rfl ?_
  refine xild 25 ⟨u128, _, rfl⟩ rfl rfl ?_
  refine xcallS 28 [.int _, .int _, .int _] [.ref 8] hH15 ⟨u128, _, rfl⟩ rfl rfl rfl rfl rfl (k_three (x := a.toInt.toNat) (y := b.toInt.toNat) (z := c.toInt.toNat) (by omega) (by omega) (by omega) (by omega) (by omega) (by omega) (fun z25 h25 => ⟨_, rfl, ?_⟩))
  refine xcallC 31 (o := 8) [.int _] [] hH15 ⟨u128, _, rfl⟩ rfl rfl (by decide) rfl (by decide) rfl ⟨rfl, rfl, rfl, rfl⟩ rfl (k_pat (o := 8) (Or.inr rfl) hH15 B15 (a := a.toInt.toNat) (b := b.toInt.toNat) (c := c.toInt.toNat) h25 (by omega) (by omega) (by omega) (by omega) (by omega) (by omega) (fun z28 hp28 hH28 F28 V28 => ⟨_, rfl, ?_⟩))
  have S28 : clS hp28 (V, T, ty) n h sv := clS_8 hS (fun c k hc => (F28 c k (by simp; omega)).trans (F15 c k (by simp; omega)))
  have c28 : cF hp hp28 := (cF_x F15 (by simp)).trans (cF_x F28 (by simp))
  refine xist2 33 ⟨u128, _, rfl⟩ rfl rfl ?_
  refine xild2 35 ⟨u128, _, rfl⟩ rfl rfl ?_
  refine xcst 36 (-1) ⟨u128, _, rfl⟩ rfl (by decide) (fun z35 h35 => ?_)
  refine xcmp_ne 39 ⟨u128, _, rfl⟩ rfl (fun c36 => ?_) (fun c36 => ?_)
  · obtain ⟨q, ds⟩ : ∃ q, sDv V a.toInt.toNat b.toInt.toNat c.toInt.toNat V 0 T 0 = some q := by
      cases e : sDv V a.toInt.toNat b.toInt.toNat c.toInt.toNat V 0 T 0 with
      | none => rw [e] at V28; have V28 : Int32.toInt z28 = -1 := V28; omega
      | some q => exact ⟨q, rfl⟩
    rw [ds] at V28
    have V28 : z28.toInt = (q.2 : Int) ∧ bdOk hp28 8 V q.1 := V28
    refine xald 50 ⟨u128, _, rfl⟩ rfl rfl ?_
    refine xcallC 53 (o := 0) [] [] hH28 ⟨u128, _, rfl⟩ rfl rfl (by decide) rfl (by decide) rfl ⟨rfl, rfl, rfl, rfl⟩ rfl (k_cmS hH28 S28 (fun hp50 hH50 F49 S49 => ⟨_, rfl, ?_⟩))
    refine xald 54 ⟨u128, _, rfl⟩ rfl rfl ?_
    refine xgetD 57 (3) hH50 ⟨u128, _, rfl⟩ rfl (by decide) (by decide) rfl rfl (by decide) ?_
    refine xald 58 ⟨u128, _, rfl⟩ rfl rfl ?_
    refine xgetD 61 (8) hH50 ⟨u128, _, rfl⟩ rfl (by decide) (by decide) rfl rfl (by decide) ?_
    refine xcallC 64 (o := 3) [.ref 8] [] hH50 ⟨u128, _, rfl⟩ rfl rfl (by decide) rfl (by decide) rfl ⟨rfl, rfl, rfl, rfl⟩ rfl (k_cpB (o := 3) (o2 := 8) (Or.inl rfl) (Or.inr rfl) (by decide) hH50 (bdOk_fr V28.2 (hyF_n F49 (by omega)) (fun _ => hyF_n F49 (by omega)) (fun _ => hyF_n F49 (by omega))) (fun hp61 hH61 F61 B61 n61 => ⟨_, rfl, ?_⟩))
    refine xald 65 ⟨u128, _, rfl⟩ rfl rfl ?_
    refine xcallC 68 (o := 0) [] [] hH61 ⟨u128, _, rfl⟩ rfl rfl (by decide) rfl (by decide) rfl ⟨rfl, rfl, rfl, rfl⟩ rfl (k_stS hH61 (ty := ty) B61 (fun i hi => (bFx_n F61 (by simp)).trans (S49.2.2.2.1 i hi)) (hyC_fr S49.2.2.2.2 (fun c k c1 c2 => F61 c k (by simp; omega))) (fun hp65 hH65 F65 S65 => ⟨_, rfl, ?_⟩))
    refine xild2 70 ⟨u128, _, rfl⟩ rfl rfl ?_
    exact xret ⟨u128, _, rfl⟩ rfl (hR _ hp65 q hH65 (c28.trans ((cF_hy F49).trans ((cF_x F61 (by simp)).trans (cF_x F65 (by simp))))) (dCd_2 g4 ds) ds S65 V28.1)
  · have dn : sDv V a.toInt.toNat b.toInt.toNat c.toInt.toNat V 0 T 0 = none := by
      cases e : sDv V a.toInt.toNat b.toInt.toNat c.toInt.toNat V 0 T 0 with
      | none => rfl
      | some q => rw [e] at V28; have := V28.1; omega
    exact xthr ⟨u128, _, rfl⟩ (by decide) rfl (by decide) (hT 2 hp28 hH28 c28 S28 (by rw [dCd_3 g4 dn]; decide) (by rw [dCd_3 g4 dn]; exact Or.inr (Or.inr ⟨rfl, rfl⟩)))
end
/-! ##### 19.m.060.36f ##### -/
section
/-! ===== the reference develops ===== -/
theorem k_begE {d : Nat} {q : sR} {n : Nat} {h : Nat → sR} {sv : Option sR} {hp : amH} {R : xQ} (hH : bHk 84 bTT hp) (hP : P0 hp) (hS : rfS hp q n h sv) (hR : ∀ hp1, bHk 84 bTT hp1 → P0 hp1 → bFr [(69, 999)] hp hp1 → rfS hp1 q n h sv → rowOk (rN hp1 69) q → R (.inl none) hp1) : xK (d + 1) 201 [.ref 66] hp R := by
  refine xin (M := am_m201) rfl rfl rfl ?_
  refine xald 1 ⟨u201, _, rfl⟩ rfl rfl ?_
  refine xgetR 4 67 hH ⟨u201, _, rfl⟩ rfl rfl ?_
  refine xcst 5 (0) ⟨u201, _, rfl⟩ rfl (by decide) (fun z4 h4 => ?_)
  refine xald 6 ⟨u201, _, rfl⟩ rfl rfl ?_
  refine xgetR 9 69 hH ⟨u201, _, rfl⟩ rfl rfl ?_
  refine xcst 10 (0) ⟨u201, _, rfl⟩ rfl (by decide) (fun z9 h9 => ?_)
  refine xsip 13 (229) ⟨u201, _, rfl⟩ rfl (by decide) (fun z10 h10 => ?_)
  refine xcallS 16 [.ref 67, .int _, .ref 69, .int _, .int _] [] hH ⟨u201, _, rfl⟩ rfl rfl rfl rfl rfl (k_copy 0 0 229 hH (by decide) (by decide) (by decide) rfl rfl (by omega) (by omega) (by omega) (by omega) (by omega) (by decide) (fun hp13 hH13 F13 E13 => ⟨_, rfl, ?_⟩))
  have r69 : rowOk (rN hp13 69) q := rowOk_eq hS.1 (fun i hi => by rw [E13 i hi, if_pos (by omega), Nat.sub_zero, Nat.zero_add])
  exact xretV ⟨u201, _, rfl⟩ rfl (hR _ hH13 (P0_no hP F13 (fun z => absurd z (by decide)) (fun _ => rowOk_V r69) (fun z => absurd z (by decide)) (by decide) (by decide)) F13 (rfS_W hS F13 (fun _ => rfl) rfl rfl (fun _ => rfl) (fun _ => rfl)) r69)
theorem k_endE {d : Nat} {q q0 : sR} {n : Nat} {h : Nat → sR} {sv : Option sR} {hp : amH} {R : xQ} (hH : bHk 84 bTT hp) (hP : P0 hp) (hS : rfS hp q0 n h sv) (hA : rowOk (rN hp 69) q) (hR : ∀ hp1, bHk 84 bTT hp1 → P0 hp1 → bFr [(67, 999)] hp hp1 → rfS hp1 q n h sv → R (.inl none) hp1) : xK (d + 1) 202 [.ref 66] hp R := by
  refine xin (M := am_m202) rfl rfl rfl ?_
  refine xald 1 ⟨u202, _, rfl⟩ rfl rfl ?_
  refine xgetR 4 69 hH ⟨u202, _, rfl⟩ rfl rfl ?_
  refine xcst 5 (0) ⟨u202, _, rfl⟩ rfl (by decide) (fun z4 h4 => ?_)
  refine xald 6 ⟨u202, _, rfl⟩ rfl rfl ?_
  refine xgetR 9 67 hH ⟨u202, _, rfl⟩ rfl rfl ?_
  refine xcst 10 (0) ⟨u202, _, rfl⟩ rfl (by decide) (fun z9 h9 => ?_)
  refine xsip 13 (229) ⟨u202, _, rfl⟩ rfl (by decide) (fun z10 h10 => ?_)
  refine xcallS 16 [.ref 69, .int _, .ref 67, .int _, .int _] [] hH ⟨u202, _, rfl⟩ rfl rfl rfl rfl rfl (k_copy 0 0 229 hH (by decide) (by decide) (by decide) rfl rfl (by omega) (by omega) (by omega) (by omega) (by omega) (by decide) (fun hp13 hH13 F13 E13 => ⟨_, rfl, ?_⟩))
  have r67 : rowOk (rN hp13 67) q := rowOk_eq hA (fun i hi => by rw [E13 i hi, if_pos (by omega), Nat.sub_zero, Nat.zero_add])
  exact xretV ⟨u202, _, rfl⟩ rfl (hR _ hH13 (P0_67 F13 hP (rowOk_V r67)) F13 (rfS_67 hS F13 r67))
/-- a row that is a system, as one -/
theorem V_rowOk {r : Nat → Int} (h : Vf r) : ∃ q, rowOk r q := by
  obtain ⟨h1, h2, h3⟩ := h
  refine ⟨((r 0).toNat, fun u v => if u < 15 ∧ v < 15 then r (4 + 15 * u + v) else -1, fun i => r (i + 1)), by show r 0 = _; omega, ⟨by show 3 ≤ (r 0).toNat; omega, by show (r 0).toNat ≤ 15; omega, fun a b => ?_⟩, fun u v hu hv => by show _ = (if u < 15 ∧ v < 15 then r (4 + 15 * u + v) else -1); rw [if_pos ⟨hu, hv⟩], fun u v h => by show (if u < 15 ∧ v < 15 then r (4 + 15 * u + v) else -1) = -1; rw [if_neg h], fun i hi => rfl⟩
  show (if a < 15 ∧ b < 15 then r (4 + 15 * a + b) else -1) = -1 ∨ ∃ c : Nat, (if a < 15 ∧ b < 15 then r (4 + 15 * a + b) else -1) = (c : Int) ∧ a < (r 0).toNat ∧ b < (r 0).toNat ∧ c < (r 0).toNat ∧ a ≠ b ∧ a ≠ c ∧ b ≠ c ∧ (if b < 15 ∧ a < 15 then r (4 + 15 * b + a) else -1) = (c : Int) ∧ (if a < 15 ∧ c < 15 then r (4 + 15 * a + c) else -1) = (b : Int)
  by_cases g : a < 15 ∧ b < 15
  · rw [if_pos g]
    rcases h3 a b g.1 g.2 with k | ⟨c, k1, k2, k3, k4, k5, k6, k7, k8, k9⟩
    · exact Or.inl k
    · exact Or.inr ⟨c, k1, by omega, by omega, by omega, k5, k6, k7, by rw [if_pos ⟨g.2, g.1⟩]; exact k8, by rw [if_pos ⟨g.1, by omega⟩]; exact k9⟩
  · rw [if_neg g]
    exact Or.inl rfl
theorem rfS_ex {hp hp1 : amH} {q : sR} {n : Nat} {h : Nat → sR} {sv : Option sR} (hS : rfS hp q n h sv) (F : bFr [(67, 999)] hp hp1) (h1 : Vf (rN hp1 67)) : ∃ q0, rfS hp1 q0 n h sv := by
  obtain ⟨q0, e⟩ := V_rowOk h1
  exact ⟨q0, rfS_67 hS F e⟩
/-- develops, on the state -/
theorem k_dvS {d V n : Nat} {h : Nat → sR} {sv : Option sR} {T : sT} {ty : Nat → Int} {hp : amH} {R : xQ} {a b c : Int32} (hH : bHk 84 bTT hp) (hP : P0 hp) (hS : rfS hp (V, T, ty) n h sv) (g : gSet V a.toInt b.toInt c.toInt = 0)
    (hR : ∀ (r : Int32) hp1, bHk 84 bTT hp1 → P0 hp1 → bFr [(67, 999)] hp hp1 → (∃ q0, rfS hp1 q0 n h sv) → (match sDv V a.toInt.toNat b.toInt.toNat c.toInt.toNat V 0 T 0 with
      | none => r.toInt = -1
      | some q => r.toInt = (q.2 : Int) ∧ rfS hp1 (V, q.1, ty) n h sv) → R (.inl (some (.int r))) hp1) : xK (d + 4) 237 [.ref 66, .int a, .int b, .int c] hp R := by
  have k := gSet_0.mp g
  refine k_rdvs hH hP (rowOk_rd hS.1) (a := a.toInt.toNat) (b := b.toInt.toNat) (c := c.toInt.toNat) (by omega) (by omega) (by omega) (by show _ < V; omega) (by show _ < V; omega) (by show _ < V; omega) (by omega) (by omega) (by omega) (fun r hp1 g1 g2 g3 g4 g5 => hR r hp1 g1 g2 g3 ?_ ?_)
  · obtain ⟨v1, v2, v3⟩ := g2.1
    exact rfS_ex hS g3 ⟨v1, v2, v3⟩
  · have g5 : (match sDv V a.toInt.toNat b.toInt.toNat c.toInt.toNat V 0 T 0 with
      | none => r.toInt = -1
      | some q => r.toInt = (q.2 : Int) ∧ rdOk hp1 V q.1) := g5
    cases e : sDv V a.toInt.toNat b.toInt.toNat c.toInt.toNat V 0 T 0 with
    | none => rw [e] at g5; exact g5
    | some q => rw [e] at g5; exact ⟨g5.1, rfS_67 hS g3 (rd_rowOk g5.2 (fun i hi => (g4 (i + 1) (by omega)).trans (hS.1.2.2.2.2 i hi)))⟩
theorem k_274E {d V n : Nat} {h : Nat → sR} {sv : Option sR} {T : sT} {ty : Nat → Int} {hp : amH} {R : xQ} {a b c : Int32} (hH : bHk 84 bTT hp) (hP : P0 hp) (hS : rfS hp (V, T, ty) n h sv)
    (hR : ∀ (z : Int32) hp1, bHk 84 bTT hp1 → P0 hp1 → bFr wM hp hp1 → rN hp1 66 7 = dCd V T a.toInt b.toInt c.toInt → ((¬ dCd V T a.toInt b.toInt c.toInt = 0 ∧ rfS hp1 (V, T, ty) n h sv) ∨ (∃ q, dCd V T a.toInt b.toInt c.toInt = 0 ∧ sDv V a.toInt.toNat b.toInt.toNat c.toInt.toNat V 0 T 0 = some q ∧ rfS hp1 (V, q.1, ty) (pM n + 1) (pH n h (V, T, ty)) sv ∧ z.toInt = (q.2 : Int))) → R (.inl (some (.int z))) hp1) : xK (d + 5) 274 [.ref 66, .int a, .int b, .int c] hp R := by
  have hV : V ≤ 15 := hS.1.2.1.2.1
  have hV0 : rN hp 67 0 = (V : Int) := hS.1.1
  refine xin (M := am_m274) rfl rfl rfl ?_
  refine xald 1 ⟨u274, _, rfl⟩ rfl rfl ?_
  refine xild 2 ⟨u274, _, rfl⟩ rfl rfl ?_
  refine xild 3 ⟨u274, _, rfl⟩ rfl rfl ?_
  refine xild 4 ⟨u274, _, rfl⟩ rfl rfl ?_
  refine xcall 7 [.ref 66, .int _, .int _, .int _] [] hH ⟨u274, _, rfl⟩ rfl rfl rfl rfl rfl (k_gp3 hH hV0 hV (fun z4 hp4 hH4 F4 t4 o4 => ⟨_, rfl, ?_⟩))
  have S4 := rfS_W hS F4 (fun _ => rfl) rfl rfl (fun _ => rfl) (fun _ => rfl)
  have P4 : P0 hp4 := P0_W (W := [(66, 7)]) (by decide) F4 hP
  refine xif_eq 10 ⟨u274, _, rfl⟩ rfl (fun c7 => ?_) (fun c7 => ?_)
  · have g4 : gSet V a.toInt b.toInt c.toInt = 0 := by omega
    refine xald 13 ⟨u274, _, rfl⟩ rfl rfl ?_
    refine xcall 16 [.ref 66] [] hH4 ⟨u274, _, rfl⟩ rfl rfl rfl rfl rfl (k_begE hH4 P4 S4 (fun hp13 hH13 P13 F13 S13 A13 => ⟨_, rfl, ?_⟩))
    refine xald 17 ⟨u274, _, rfl⟩ rfl rfl ?_
    refine xild 18 ⟨u274, _, rfl⟩ rfl rfl ?_
    refine xild 19 ⟨u274, _, rfl⟩ rfl rfl ?_
    refine xild 20 ⟨u274, _, rfl⟩ rfl rfl ?_
    refine xcall 23 [.ref 66, .int _, .int _, .int _] [] hH13 ⟨u274, _, rfl⟩ rfl rfl rfl rfl rfl (k_dvS hH13 P13 S13 g4 (fun z20 hp20 hH20 P20 F20 X20 V20 => ⟨_, rfl, ?_⟩))
    obtain ⟨q0, S20⟩ := X20
    refine xist2 25 ⟨u274, _, rfl⟩ rfl rfl ?_
    refine xald 26 ⟨u274, _, rfl⟩ rfl rfl ?_
    refine xcall 29 [.ref 66] [] hH20 ⟨u274, _, rfl⟩ rfl rfl rfl rfl rfl (k_endE hH20 P20 S20 (rowOk_eq A13 (fun i _ => r_fr F20 rfl)) (fun hp26 hH26 P26 F26 S26 => ⟨_, rfl, ?_⟩))
    have e7 : rN hp26 66 7 = 0 := by rw [show rN hp26 66 7 = rN hp20 66 7 from r_fr F26 rfl, show rN hp20 66 7 = rN hp13 66 7 from r_fr F20 rfl, show rN hp13 66 7 = rN hp4 66 7 from r_fr F13 rfl, t4, g4]
    have W26 : bFr wM hp hp26 := (((bFr_sub F4 (by decide)).trans (bFr_sub F13 (by decide))).trans (bFr_sub F20 (by decide))).trans (bFr_sub F26 (by decide))
    refine xald 30 ⟨u274, _, rfl⟩ rfl rfl ?_
    refine xild2 32 ⟨u274, _, rfl⟩ rfl rfl ?_
    refine xcst 33 (-1) ⟨u274, _, rfl⟩ rfl (by decide) (fun z32 h32 => ?_)
    refine xcmp_ne 36 ⟨u274, _, rfl⟩ rfl (fun c33 => ?_) (fun c33 => ?_)
    · refine xcst 41 (0) ⟨u274, _, rfl⟩ rfl (by decide) (fun z40 h40 => ?_)
      refine xcst 42 (3) ⟨u274, _, rfl⟩ rfl (by decide) (fun z41 h41 => ?_)
      refine xcall 45 [.ref 66, .int _, .int _] [] hH26 ⟨u274, _, rfl⟩ rfl rfl rfl rfl rfl (k_failsE hH26 (by omega) (fun hp42 hH42 V42 => ⟨_, rfl, ?_⟩))
      refine xif_eq 48 ⟨u274, _, rfl⟩ rfl (fun c45 => ?_) (fun c45 => ?_)
      · obtain ⟨q, ds⟩ : ∃ q, sDv V a.toInt.toNat b.toInt.toNat c.toInt.toNat V 0 T 0 = some q := by
          cases e : sDv V a.toInt.toNat b.toInt.toNat c.toInt.toNat V 0 T 0 with
          | none => rw [e] at V20; have V20 : Int32.toInt z20 = -1 := V20; omega
          | some q => exact ⟨q, rfl⟩
        have hpe : hp26 = hp42 := by
          rcases V42 with ⟨q1, e⟩ | ⟨q1, -⟩
          · exact e.symm
          · omega
        subst hpe
        refine xald 51 ⟨u274, _, rfl⟩ rfl rfl ?_
        refine xcall 54 [.ref 66] [] hH42 ⟨u274, _, rfl⟩ rfl rfl rfl rfl rfl (k_rmS hH42 P26 S26 (fun hp51 hH51 P51 F51 S51 => ⟨_, rfl, ?_⟩))
        refine xald 55 ⟨u274, _, rfl⟩ rfl rfl ?_
        refine xild 56 ⟨u274, _, rfl⟩ rfl rfl ?_
        refine xild 57 ⟨u274, _, rfl⟩ rfl rfl ?_
        refine xild 58 ⟨u274, _, rfl⟩ rfl rfl ?_
        refine xcall 61 [.ref 66, .int _, .int _, .int _] [] hH51 ⟨u274, _, rfl⟩ rfl rfl rfl rfl rfl (k_dvS hH51 P51 S51 g4 (fun z58 hp58 hH58 P58 F58 X58 V58 => ⟨_, rfl, ?_⟩))
        rw [ds] at V58
        have V58 : z58.toInt = (q.2 : Int) ∧ rfS hp58 (V, q.1, ty) (pM n + 1) (pH n h (V, T, ty)) sv := V58
        exact xret ⟨u274, _, rfl⟩ rfl (hR _ hp58 hH58 P58 ((W26.trans (bFr_sub F51 (by decide))).trans (bFr_sub F58 (by decide))) (by rw [dCd_2 g4 ds, show rN hp58 66 7 = rN hp51 66 7 from r_fr F58 rfl, show rN hp51 66 7 = rN hp26 66 7 from r_fr F51 rfl]; exact e7) (Or.inr ⟨q, dCd_2 g4 ds, ds, V58.2, V58.1⟩))
      · rcases V42 with ⟨q1, -⟩ | ⟨q1, -⟩ <;> omega
    · refine xcst 37 (1) ⟨u274, _, rfl⟩ rfl (by decide) (fun z36 h36 => ?_)
      refine xgoto ⟨u274, _, rfl⟩ ?_
      refine xcst 42 (3) ⟨u274, _, rfl⟩ rfl (by decide) (fun z41 h41 => ?_)
      refine xcall 45 [.ref 66, .int _, .int _] [] hH26 ⟨u274, _, rfl⟩ rfl rfl rfl rfl rfl (k_failsE hH26 (by omega) (fun hp42 hH42 V42 => ⟨_, rfl, ?_⟩))
      refine xif_eq 48 ⟨u274, _, rfl⟩ rfl (fun c45 => ?_) (fun c45 => ?_)
      · rcases V42 with ⟨q1, -⟩ | ⟨q1, -⟩ <;> omega
      · refine xcst 49 (0) ⟨u274, _, rfl⟩ rfl (by decide) (fun z48 h48 => ?_)
        have dn : sDv V a.toInt.toNat b.toInt.toNat c.toInt.toNat V 0 T 0 = none := by
          cases e : sDv V a.toInt.toNat b.toInt.toNat c.toInt.toNat V 0 T 0 with
          | none => rfl
          | some q => rw [e] at V20; have := V20.1; omega
        rcases V42 with ⟨q1, -⟩ | ⟨q1, U⟩
        · omega
        · exact xret ⟨u274, _, rfl⟩ rfl (hR _ hp42 hH42 (P0_W (W := [(66, 7)]) (by decide) (rU_fr U rfl) P26) (W26.trans (rU_fr U (by decide))) (by rw [U.1, dCd_3 g4 dn]; exact h41) (Or.inl ⟨by rw [dCd_3 g4 dn]; decide, rfS_W (W := [(66, 7)]) S26 (rU_fr U rfl) (fun _ => rfl) rfl rfl (fun _ => rfl) (fun _ => rfl)⟩))
  · refine xcst 11 (0) ⟨u274, _, rfl⟩ rfl (by decide) (fun z10 h10 => ?_)
    exact xret ⟨u274, _, rfl⟩ rfl (hR _ hp4 hH4 P4 (bFr_sub F4 (by decide)) (by rw [t4, dCd_1 (by omega)]) (Or.inl ⟨by rw [dCd_1 (by omega)]; omega, S4⟩))
end
/-! ##### 19.m.061.36g ##### -/
section
/-! ===== filling, on both sides ===== -/
/-- the number n stands for a triple of points -/
abbrev fu3 (V n : Nat) : Prop := n / 225 < n / 15 % 15 ∧ n / 15 % 15 < n % 15 ∧ n % 15 < V
/-- all triples numbered below n put that fit: what comes, how many -/
noncomputable def fuS (V : Nat) (T : sT) : Nat → sT × Nat
  | 0 => (T, 0)
  | n + 1 => if fu3 V n ∧ sFree (fuS V T n).1 (n / 225) (n / 15 % 15) (n % 15) then (sPut (fuS V T n).1 (n / 225) (n / 15 % 15) (n % 15), (fuS V T n).2 + 1) else fuS V T n
theorem fuS_no {V n n1 : Nat} {T : sT} (h : n ≤ n1) (hn : ∀ k, n ≤ k → k < n1 → k / 15 / 15 = k / 225 → ¬ fu3 V k) : fuS V T n1 = fuS V T n := by
  induction n1 with
  | zero => rw [show n = 0 by omega]
  | succ m ih =>
    by_cases e : n = m + 1
    · rw [e]
    · have : fuS V T (m + 1) = fuS V T m := by
        show (if _ then _ else _) = _
        rw [if_neg (fun z => hn m (by omega) (by omega) (by rw [Nat.div_div_eq_div_mul]) z.1)]
      rw [this]
      exact ih (by omega) (fun k k1 k2 => hn k k1 (by omega))
theorem fuS_le (V : Nat) (T : sT) : ∀ n, (fuS V T n).2 ≤ n
  | 0 => Nat.le_refl _
  | n + 1 => by
    have := fuS_le V T n
    show (if fu3 V n ∧ sFree (fuS V T n).1 (n / 225) (n / 15 % 15) (n % 15) then (sPut (fuS V T n).1 (n / 225) (n / 15 % 15) (n % 15), (fuS V T n).2 + 1) else fuS V T n).2 ≤ n + 1
    split
    · exact Nat.succ_le_succ this
    · omega
theorem fuS_at {V x y z : Nat} {T : sT} (hV : V ≤ 15) (h1 : x < y) (h2 : y < z) (h3 : z < V) : (sFree (fuS V T (225 * x + 15 * y + z)).1 x y z → fuS V T (225 * x + 15 * y + z + 1) = (sPut (fuS V T (225 * x + 15 * y + z)).1 x y z, (fuS V T (225 * x + 15 * y + z)).2 + 1)) ∧ (¬ sFree (fuS V T (225 * x + 15 * y + z)).1 x y z → fuS V T (225 * x + 15 * y + z + 1) = fuS V T (225 * x + 15 * y + z)) := by
  have e1 : (225 * x + 15 * y + z) / 225 = x := by omega
  have e2 : (225 * x + 15 * y + z) / 15 % 15 = y := by omega
  have e3 : (225 * x + 15 * y + z) % 15 = z := by omega
  constructor
  · intro h
    show (if _ then _ else _) = _
    rw [if_pos ⟨⟨by omega, by omega, by omega⟩, by rw [e1, e2, e3]; exact h⟩, e1, e2, e3]
  · intro h
    show (if _ then _ else _) = _
    rw [if_neg (fun w => h (by have w2 := w.2; rw [e1, e2, e3] at w2; exact w2))]
theorem u22 : bUp 0 am_m22.1 = true := by decide +kernel
theorem u129 : bUp 0 am_m129.1 = true := by decide +kernel
theorem l22z {d V : Nat} {T : sT} {hp0 : amH} {R : xQ} (hV15 : V ≤ 15) {x y : Nat} {wx wy : Int32} (hwx : wx.toInt = (x : Int)) (hwy : wy.toInt = (y : Int)) (hxy : x < y) (hyV : y < V)
    (hQ : ∀ hp (w : Int32) (v4 : Option Value), bHk 84 bTT hp → bFx [4, 6] hp0 hp → (bdOk hp 3 V (fuS V T (225 * x + 15 * (y + 1))).1) → w.toInt = (((fuS V T (225 * x + 15 * (y + 1))).2 : Nat) : Int) → xV (d + 3) am_m22 72 [some (.ref 3), some (.int w), some (.int wx), some (.int wy), v4] [] hp R) :
    ∀ (jj z : Nat) (wz : Int32) (hp : amH) (w : Int32), wz.toInt = (z : Int) → y < z → z + jj = V → bHk 84 bTT hp → bFx [4, 6] hp0 hp → (bdOk hp 3 V (fuS V T (225 * x + 15 * y + z)).1) → w.toInt = (((fuS V T (225 * x + 15 * y + z)).2 : Nat) : Int) → xV (d + 3) am_m22 29 [some (.ref 3), some (.int w), some (.int wx), some (.int wy), some (.int wz)] [] hp R := by
  intro jj
  induction jj with
  | zero =>
    intro z wz hp w hwz hyz hj hH hF hB hw
    have bV := hB.1
    refine xild2 31 ⟨u22, _, rfl⟩ rfl rfl ?_
    refine xald 32 ⟨u22, _, rfl⟩ rfl rfl ?_
    refine xgetC 35 hH ⟨u22, _, rfl⟩ rfl (by decide) (by decide) rfl rfl (by decide) (fun z32 h32 => ?_)
    refine xcmp_ge 38 ⟨u22, _, rfl⟩ rfl (fun c35 => ?_) (fun c35 => ?_)
    · exact hQ hp _ _ hH hF (by rw [fuS_no (T := T) (V := V) (n := 225 * x + 15 * y + z) (n1 := 225 * x + 15 * (y + 1)) (by omega) (fun k k1 k2 k3 => by omega)]; exact hB) (by rw [fuS_no (T := T) (V := V) (n := 225 * x + 15 * y + z) (n1 := 225 * x + 15 * (y + 1)) (by omega) (fun k k1 k2 k3 => by omega)]; exact hw)
    · omega
  | succ jj ih =>
    intro z wz hp w hwz hyz hj hH hF hB hw
    have bV := hB.1
    obtain ⟨f1, f2⟩ := fuS_at (T := T) hV15 hxy hyz (show z < V by omega)
    have cl := fuS_le V T (225 * x + 15 * y + z)
    refine xild2 31 ⟨u22, _, rfl⟩ rfl rfl ?_
    refine xald 32 ⟨u22, _, rfl⟩ rfl rfl ?_
    refine xgetC 35 hH ⟨u22, _, rfl⟩ rfl (by decide) (by decide) rfl rfl (by decide) (fun z32 h32 => ?_)
    refine xcmp_ge 38 ⟨u22, _, rfl⟩ rfl (fun c35 => ?_) (fun c35 => ?_)
    · omega
    · refine xald 39 ⟨u22, _, rfl⟩ rfl rfl ?_
      refine xild 40 ⟨u22, _, rfl⟩ rfl rfl ?_
      refine xild 41 ⟨u22, _, rfl⟩ rfl rfl ?_
      refine xild2 43 ⟨u22, _, rfl⟩ rfl rfl ?_
      refine xcallS 46 [.int _, .int _, .int _] [.ref 3] hH ⟨u22, _, rfl⟩ rfl rfl rfl rfl rfl (k_three (x := x) (y := y) (z := z) (by omega) (by omega) (by omega) (by omega) (by omega) (by omega) (fun z43 h43 => ⟨_, rfl, ?_⟩))
      refine xcallC 49 (o := 3) [.int _] [] hH ⟨u22, _, rfl⟩ rfl rfl (by decide) rfl (by decide) rfl ⟨rfl, rfl, rfl, rfl⟩ rfl (k_tak (o := 3) (Or.inl rfl) hH hB (x := x) (y := y) (z := z) h43 hxy hyz (by omega) (fun z46 h46 => ⟨_, rfl, ?_⟩))
      refine xif_eq 52 ⟨u22, _, rfl⟩ rfl (fun c49 => ?_) (fun c49 => ?_)
      · refine xinc 69 (1) ⟨u22, _, rfl⟩ rfl rfl rfl (by decide) (by omega) (by omega) (fun z66 h66 => ?_)
        refine xgoto ⟨u22, _, rfl⟩ ?_
        have nf : ¬ sFree (fuS V T (225 * x + 15 * y + z)).1 x y z := by omega
        exact ih (z + 1) _ hp _ (by omega) (by omega) (by omega) hH hF (by rw [show 225 * x + 15 * y + (z + 1) = 225 * x + 15 * y + z + 1 by omega, f2 nf]; exact hB) (by rw [show 225 * x + 15 * y + (z + 1) = 225 * x + 15 * y + z + 1 by omega, f2 nf]; exact hw)
      · refine xald 53 ⟨u22, _, rfl⟩ rfl rfl ?_
        refine xild 54 ⟨u22, _, rfl⟩ rfl rfl ?_
        refine xild 55 ⟨u22, _, rfl⟩ rfl rfl ?_
        refine xild2 57 ⟨u22, _, rfl⟩ rfl rfl ?_
        refine xcallS 60 [.int _, .int _, .int _] [.ref 3] hH ⟨u22, _, rfl⟩ rfl rfl rfl rfl rfl (k_three (x := x) (y := y) (z := z) (by omega) (by omega) (by omega) (by omega) (by omega) (by omega) (fun z57 h57 => ⟨_, rfl, ?_⟩))
        refine xcallC 63 (o := 3) [.int _] [] hH ⟨u22, _, rfl⟩ rfl rfl (by decide) rfl (by decide) rfl ⟨rfl, rfl, rfl, rfl⟩ rfl (k_bput (o := 3) (Or.inl rfl) hH hB (x := x) (y := y) (z := z) h57 hxy hyz (by omega) (by omega) (fun hp60 hH60 F60 B60 => ⟨_, rfl, ?_⟩))
        refine xinc 66 (1) ⟨u22, _, rfl⟩ rfl rfl rfl (by decide) (by omega) (by omega) (fun z63 h63 => ?_)
        refine xinc 69 (1) ⟨u22, _, rfl⟩ rfl rfl rfl (by decide) (by omega) (by omega) (fun z66 h66 => ?_)
        refine xgoto ⟨u22, _, rfl⟩ ?_
        have fr : sFree (fuS V T (225 * x + 15 * y + z)).1 x y z := by omega
        exact ih (z + 1) _ hp60 _ (by omega) (by omega) (by omega) hH60 (hF.trans (F60.mono (by simp))) (by rw [show 225 * x + 15 * y + (z + 1) = 225 * x + 15 * y + z + 1 by omega, f1 fr]; exact B60) (by rw [show 225 * x + 15 * y + (z + 1) = 225 * x + 15 * y + z + 1 by omega, f1 fr]; show _ = (((fuS V T (225 * x + 15 * y + z)).2 + 1 : Nat) : Int); omega)
theorem l22y {d V : Nat} {T : sT} {hp0 : amH} {R : xQ} (hV15 : V ≤ 15) {x : Nat} {wx : Int32} (hwx : wx.toInt = (x : Int)) (hxV : x < V)
    (hQ : ∀ hp (w : Int32) (v3 v4 : Option Value), bHk 84 bTT hp → bFx [4, 6] hp0 hp → (bdOk hp 3 V (fuS V T (225 * (x + 1))).1) → w.toInt = (((fuS V T (225 * (x + 1))).2 : Nat) : Int) → xV (d + 3) am_m22 78 [some (.ref 3), some (.int w), some (.int wx), v3, v4] [] hp R) :
    ∀ (jj y : Nat) (wy : Int32) (hp : amH) (w : Int32) (v4 : Option Value), wy.toInt = (y : Int) → x < y → y + jj = V → bHk 84 bTT hp → bFx [4, 6] hp0 hp → (bdOk hp 3 V (fuS V T (225 * x + 15 * y)).1) → w.toInt = (((fuS V T (225 * x + 15 * y)).2 : Nat) : Int) → xV (d + 3) am_m22 16 [some (.ref 3), some (.int w), some (.int wx), some (.int wy), v4] [] hp R := by
  intro jj
  induction jj with
  | zero =>
    intro y wy hp w v4 hwy hxy hj hH hF hB hw
    have bV := hB.1
    refine xild 17 ⟨u22, _, rfl⟩ rfl rfl ?_
    refine xald 18 ⟨u22, _, rfl⟩ rfl rfl ?_
    refine xgetC 21 hH ⟨u22, _, rfl⟩ rfl (by decide) (by decide) rfl rfl (by decide) (fun z18 h18 => ?_)
    refine xcmp_ge 24 ⟨u22, _, rfl⟩ rfl (fun c21 => ?_) (fun c21 => ?_)
    · exact hQ hp _ _ _ hH hF (by rw [fuS_no (T := T) (V := V) (n := 225 * x + 15 * y) (n1 := 225 * (x + 1)) (by omega) (fun k k1 k2 k3 => by omega)]; exact hB) (by rw [fuS_no (T := T) (V := V) (n := 225 * x + 15 * y) (n1 := 225 * (x + 1)) (by omega) (fun k k1 k2 k3 => by omega)]; exact hw)
    · omega
  | succ jj ih =>
    intro y wy hp w v4 hwy hxy hj hH hF hB hw
    have bV := hB.1
    refine xild 17 ⟨u22, _, rfl⟩ rfl rfl ?_
    refine xald 18 ⟨u22, _, rfl⟩ rfl rfl ?_
    refine xgetC 21 hH ⟨u22, _, rfl⟩ rfl (by decide) (by decide) rfl rfl (by decide) (fun z18 h18 => ?_)
    refine xcmp_ge 24 ⟨u22, _, rfl⟩ rfl (fun c21 => ?_) (fun c21 => ?_)
    · omega
    · refine xild 25 ⟨u22, _, rfl⟩ rfl rfl ?_
      refine xcst 26 (1) ⟨u22, _, rfl⟩ rfl (by decide) (fun z25 h25 => ?_)
      refine xadd 27 _ ⟨u22, _, rfl⟩ rfl rfl (by omega) (by omega) (fun z26 h26 => ?_)
      refine xist2 29 ⟨u22, _, rfl⟩ rfl rfl ?_
      refine l22z hV15 hwx hwy hxy (by omega) (fun hp1 w1 v41 k1 k2 k3 k4 => ?_) (V - (y + 1)) (y + 1) _ hp _ (by omega) (by omega) (by omega) hH hF (by rw [fuS_no (T := T) (V := V) (n := 225 * x + 15 * y) (n1 := 225 * x + 15 * y + (y + 1)) (by omega) (fun k k1 k2 k3 => by omega)]; exact hB) (by rw [fuS_no (T := T) (V := V) (n := 225 * x + 15 * y) (n1 := 225 * x + 15 * y + (y + 1)) (by omega) (fun k k1 k2 k3 => by omega)]; exact hw)
      refine xinc 75 (1) ⟨u22, _, rfl⟩ rfl rfl rfl (by decide) (by omega) (by omega) (fun z72 h72 => ?_)
      refine xgoto ⟨u22, _, rfl⟩ ?_
      exact ih (y + 1) _ hp1 _ _ (by omega) (by omega) (by omega) k1 k2 k3 k4
theorem l22x {d V : Nat} {T : sT} {hp0 : amH} {R : xQ} (hV15 : V ≤ 15) (hR : ∀ (w : Int32) hp, bHk 84 bTT hp → bFx [4, 6] hp0 hp → (bdOk hp 3 V (fuS V T (3375)).1) → w.toInt = (((fuS V T (3375)).2 : Nat) : Int) → R (.inl (some (.int w))) hp) :
    ∀ (jj x : Nat) (wx : Int32) (hp : amH) (w : Int32) (v3 v4 : Option Value), wx.toInt = (x : Int) → x + jj = V → bHk 84 bTT hp → bFx [4, 6] hp0 hp → (bdOk hp 3 V (fuS V T (225 * x)).1) → w.toInt = (((fuS V T (225 * x)).2 : Nat) : Int) → xV (d + 3) am_m22 4 [some (.ref 3), some (.int w), some (.int wx), v3, v4] [] hp R := by
  intro jj
  induction jj with
  | zero =>
    intro x wx hp w v3 v4 hwx hj hH hF hB hw
    have bV := hB.1
    refine xild 5 ⟨u22, _, rfl⟩ rfl rfl ?_
    refine xald 6 ⟨u22, _, rfl⟩ rfl rfl ?_
    refine xgetC 9 hH ⟨u22, _, rfl⟩ rfl (by decide) (by decide) rfl rfl (by decide) (fun z6 h6 => ?_)
    refine xcmp_ge 12 ⟨u22, _, rfl⟩ rfl (fun c9 => ?_) (fun c9 => ?_)
    · refine xild 85 ⟨u22, _, rfl⟩ rfl rfl ?_
      exact xret ⟨u22, _, rfl⟩ rfl (hR _ hp hH hF (by rw [fuS_no (T := T) (V := V) (n := 225 * x) (n1 := 3375) (by omega) (fun k k1 k2 k3 => by omega)]; exact hB) (by rw [fuS_no (T := T) (V := V) (n := 225 * x) (n1 := 3375) (by omega) (fun k k1 k2 k3 => by omega)]; exact hw))
    · omega
  | succ jj ih =>
    intro x wx hp w v3 v4 hwx hj hH hF hB hw
    have bV := hB.1
    refine xild 5 ⟨u22, _, rfl⟩ rfl rfl ?_
    refine xald 6 ⟨u22, _, rfl⟩ rfl rfl ?_
    refine xgetC 9 hH ⟨u22, _, rfl⟩ rfl (by decide) (by decide) rfl rfl (by decide) (fun z6 h6 => ?_)
    refine xcmp_ge 12 ⟨u22, _, rfl⟩ rfl (fun c9 => ?_) (fun c9 => ?_)
    · omega
    · refine xild 13 ⟨u22, _, rfl⟩ rfl rfl ?_
      refine xcst 14 (1) ⟨u22, _, rfl⟩ rfl (by decide) (fun z13 h13 => ?_)
      refine xadd 15 _ ⟨u22, _, rfl⟩ rfl rfl (by omega) (by omega) (fun z14 h14 => ?_)
      refine xist 16 ⟨u22, _, rfl⟩ rfl rfl ?_
      refine l22y hV15 hwx (by omega) (fun hp1 w1 v31 v41 k1 k2 k3 k4 => ?_) (V - (x + 1)) (x + 1) _ hp _ _ (by omega) (by omega) (by omega) hH hF (by rw [fuS_no (T := T) (V := V) (n := 225 * x) (n1 := 225 * x + 15 * (x + 1)) (by omega) (fun k k1 k2 k3 => by omega)]; exact hB) (by rw [fuS_no (T := T) (V := V) (n := 225 * x) (n1 := 225 * x + 15 * (x + 1)) (by omega) (fun k k1 k2 k3 => by omega)]; exact hw)
      refine xinc 81 (1) ⟨u22, _, rfl⟩ rfl rfl rfl (by decide) (by omega) (by omega) (fun z78 h78 => ?_)
      refine xgoto ⟨u22, _, rfl⟩ ?_
      exact ih (x + 1) _ hp1 _ _ _ (by omega) (by omega) k1 k2 k3 k4
theorem l275z {d V n : Nat} {T : sT} {ty : Nat → Int} {h : Nat → sR} {sv : Option sR} {hp0 : amH} {R : xQ} (hV15 : V ≤ 15) {x y : Nat} {wx wy : Int32} (hwx : wx.toInt = (x : Int)) (hwy : wy.toInt = (y : Int)) (hxy : x < y) (hyV : y < V)
    (hQ : ∀ hp (w : Int32) (v4 : Option Value), bHk 84 bTT hp → bFr [(67, 999)] hp0 hp → (P0 hp ∧ rfS hp (V, (fuS V T (225 * x + 15 * (y + 1))).1, ty) n h sv) → w.toInt = (((fuS V T (225 * x + 15 * (y + 1))).2 : Nat) : Int) → xV (d + 4) am_m275 78 [some (.ref 66), some (.int w), some (.int wx), some (.int wy), v4] [] hp R) :
    ∀ (jj z : Nat) (wz : Int32) (hp : amH) (w : Int32), wz.toInt = (z : Int) → y < z → z + jj = V → bHk 84 bTT hp → bFr [(67, 999)] hp0 hp → (P0 hp ∧ rfS hp (V, (fuS V T (225 * x + 15 * y + z)).1, ty) n h sv) → w.toInt = (((fuS V T (225 * x + 15 * y + z)).2 : Nat) : Int) → xV (d + 4) am_m275 38 [some (.ref 66), some (.int w), some (.int wx), some (.int wy), some (.int wz)] [] hp R := by
  intro jj
  induction jj with
  | zero =>
    intro z wz hp w hwz hyz hj hH hF hB hw
    have bV := hB.2.1.1
    refine xild2 40 ⟨u275, _, rfl⟩ rfl rfl ?_
    refine xald 41 ⟨u275, _, rfl⟩ rfl rfl ?_
    refine xcall 44 [.ref 66] [.int _] hH ⟨u275, _, rfl⟩ rfl rfl rfl rfl rfl (k_points hH (fun z41 h41 => ⟨_, rfl, ?_⟩))
    refine xcmp_ge 47 ⟨u275, _, rfl⟩ rfl (fun c44 => ?_) (fun c44 => ?_)
    · exact hQ hp _ _ hH hF (by rw [fuS_no (T := T) (V := V) (n := 225 * x + 15 * y + z) (n1 := 225 * x + 15 * (y + 1)) (by omega) (fun k k1 k2 k3 => by omega)]; exact hB) (by rw [fuS_no (T := T) (V := V) (n := 225 * x + 15 * y + z) (n1 := 225 * x + 15 * (y + 1)) (by omega) (fun k k1 k2 k3 => by omega)]; exact hw)
    · omega
  | succ jj ih =>
    intro z wz hp w hwz hyz hj hH hF hB hw
    have bV := hB.2.1.1
    obtain ⟨f1, f2⟩ := fuS_at (T := T) hV15 hxy hyz (show z < V by omega)
    have cl := fuS_le V T (225 * x + 15 * y + z)
    refine xild2 40 ⟨u275, _, rfl⟩ rfl rfl ?_
    refine xald 41 ⟨u275, _, rfl⟩ rfl rfl ?_
    refine xcall 44 [.ref 66] [.int _] hH ⟨u275, _, rfl⟩ rfl rfl rfl rfl rfl (k_points hH (fun z41 h41 => ⟨_, rfl, ?_⟩))
    refine xcmp_ge 47 ⟨u275, _, rfl⟩ rfl (fun c44 => ?_) (fun c44 => ?_)
    · omega
    · refine xald 48 ⟨u275, _, rfl⟩ rfl rfl ?_
      refine xild 49 ⟨u275, _, rfl⟩ rfl rfl ?_
      refine xild 50 ⟨u275, _, rfl⟩ rfl rfl ?_
      refine xild2 52 ⟨u275, _, rfl⟩ rfl rfl ?_
      refine xcall 55 [.ref 66, .int _, .int _, .int _] [] hH ⟨u275, _, rfl⟩ rfl rfl rfl rfl rfl (k_rfree hH (rowOk_rd hB.2.1) (x := x) (y := y) (z := z) hwx hwy hwz (by show x < V; omega) (by show y < V; omega) (by show z < V; omega) (fun z52 h52 => ⟨_, rfl, ?_⟩))
      have h52 : (z52.toInt = 1 ∧ sFree (fuS V T (225 * x + 15 * y + z)).1 x y z) ∨ (z52.toInt = 0 ∧ ¬ sFree (fuS V T (225 * x + 15 * y + z)).1 x y z) := h52
      refine xif_ne 58 ⟨u275, _, rfl⟩ rfl (fun c55 => ?_) (fun c55 => ?_)
      · refine xald 62 ⟨u275, _, rfl⟩ rfl rfl ?_
        refine xild 63 ⟨u275, _, rfl⟩ rfl rfl ?_
        refine xild 64 ⟨u275, _, rfl⟩ rfl rfl ?_
        refine xild2 66 ⟨u275, _, rfl⟩ rfl rfl ?_
        refine xcall 69 [.ref 66, .int _, .int _, .int _] [] hH ⟨u275, _, rfl⟩ rfl rfl rfl rfl rfl (k_ptR hH hB.1 hB.2.1 (x := x) (y := y) (z := z) hwx hwy hwz (by omega) (by omega) (by omega) (by omega) (by omega) (by omega) (by omega) (fun hp66 hH66 P66 F66 C66 => ⟨_, rfl, ?_⟩))
        have S66 := rfS_67 hB.2 F66 C66
        refine xinc 72 (1) ⟨u275, _, rfl⟩ rfl rfl rfl (by decide) (by omega) (by omega) (fun z69 h69 => ?_)
        refine xinc 75 (1) ⟨u275, _, rfl⟩ rfl rfl rfl (by decide) (by omega) (by omega) (fun z72 h72 => ?_)
        refine xgoto ⟨u275, _, rfl⟩ ?_
        have fr : sFree (fuS V T (225 * x + 15 * y + z)).1 x y z := by omega
        exact ih (z + 1) _ hp66 _ (by omega) (by omega) (by omega) hH66 (hF.trans F66) ⟨P66, by rw [show 225 * x + 15 * y + (z + 1) = 225 * x + 15 * y + z + 1 by omega, f1 fr]; exact S66⟩ (by rw [show 225 * x + 15 * y + (z + 1) = 225 * x + 15 * y + z + 1 by omega, f1 fr]; show _ = (((fuS V T (225 * x + 15 * y + z)).2 + 1 : Nat) : Int); omega)
      · refine xgoto ⟨u275, _, rfl⟩ ?_
        refine xinc 75 (1) ⟨u275, _, rfl⟩ rfl rfl rfl (by decide) (by omega) (by omega) (fun z72 h72 => ?_)
        refine xgoto ⟨u275, _, rfl⟩ ?_
        have nf : ¬ sFree (fuS V T (225 * x + 15 * y + z)).1 x y z := by omega
        exact ih (z + 1) _ hp _ (by omega) (by omega) (by omega) hH hF (by rw [show 225 * x + 15 * y + (z + 1) = 225 * x + 15 * y + z + 1 by omega, f2 nf]; exact hB) (by rw [show 225 * x + 15 * y + (z + 1) = 225 * x + 15 * y + z + 1 by omega, f2 nf]; exact hw)
theorem l275y {d V n : Nat} {T : sT} {ty : Nat → Int} {h : Nat → sR} {sv : Option sR} {hp0 : amH} {R : xQ} (hV15 : V ≤ 15) {x : Nat} {wx : Int32} (hwx : wx.toInt = (x : Int)) (hxV : x < V)
    (hQ : ∀ hp (w : Int32) (v3 v4 : Option Value), bHk 84 bTT hp → bFr [(67, 999)] hp0 hp → (P0 hp ∧ rfS hp (V, (fuS V T (225 * (x + 1))).1, ty) n h sv) → w.toInt = (((fuS V T (225 * (x + 1))).2 : Nat) : Int) → xV (d + 4) am_m275 84 [some (.ref 66), some (.int w), some (.int wx), v3, v4] [] hp R) :
    ∀ (jj y : Nat) (wy : Int32) (hp : amH) (w : Int32) (v4 : Option Value), wy.toInt = (y : Int) → x < y → y + jj = V → bHk 84 bTT hp → bFr [(67, 999)] hp0 hp → (P0 hp ∧ rfS hp (V, (fuS V T (225 * x + 15 * y)).1, ty) n h sv) → w.toInt = (((fuS V T (225 * x + 15 * y)).2 : Nat) : Int) → xV (d + 4) am_m275 25 [some (.ref 66), some (.int w), some (.int wx), some (.int wy), v4] [] hp R := by
  intro jj
  induction jj with
  | zero =>
    intro y wy hp w v4 hwy hxy hj hH hF hB hw
    have bV := hB.2.1.1
    refine xild 26 ⟨u275, _, rfl⟩ rfl rfl ?_
    refine xald 27 ⟨u275, _, rfl⟩ rfl rfl ?_
    refine xcall 30 [.ref 66] [.int _] hH ⟨u275, _, rfl⟩ rfl rfl rfl rfl rfl (k_points hH (fun z27 h27 => ⟨_, rfl, ?_⟩))
    refine xcmp_ge 33 ⟨u275, _, rfl⟩ rfl (fun c30 => ?_) (fun c30 => ?_)
    · exact hQ hp _ _ _ hH hF (by rw [fuS_no (T := T) (V := V) (n := 225 * x + 15 * y) (n1 := 225 * (x + 1)) (by omega) (fun k k1 k2 k3 => by omega)]; exact hB) (by rw [fuS_no (T := T) (V := V) (n := 225 * x + 15 * y) (n1 := 225 * (x + 1)) (by omega) (fun k k1 k2 k3 => by omega)]; exact hw)
    · omega
  | succ jj ih =>
    intro y wy hp w v4 hwy hxy hj hH hF hB hw
    have bV := hB.2.1.1
    refine xild 26 ⟨u275, _, rfl⟩ rfl rfl ?_
    refine xald 27 ⟨u275, _, rfl⟩ rfl rfl ?_
    refine xcall 30 [.ref 66] [.int _] hH ⟨u275, _, rfl⟩ rfl rfl rfl rfl rfl (k_points hH (fun z27 h27 => ⟨_, rfl, ?_⟩))
    refine xcmp_ge 33 ⟨u275, _, rfl⟩ rfl (fun c30 => ?_) (fun c30 => ?_)
    · omega
    · refine xild 34 ⟨u275, _, rfl⟩ rfl rfl ?_
      refine xcst 35 (1) ⟨u275, _, rfl⟩ rfl (by decide) (fun z34 h34 => ?_)
      refine xadd 36 _ ⟨u275, _, rfl⟩ rfl rfl (by omega) (by omega) (fun z35 h35 => ?_)
      refine xist2 38 ⟨u275, _, rfl⟩ rfl rfl ?_
      refine l275z hV15 hwx hwy hxy (by omega) (fun hp1 w1 v41 k1 k2 k3 k4 => ?_) (V - (y + 1)) (y + 1) _ hp _ (by omega) (by omega) (by omega) hH hF (by rw [fuS_no (T := T) (V := V) (n := 225 * x + 15 * y) (n1 := 225 * x + 15 * y + (y + 1)) (by omega) (fun k k1 k2 k3 => by omega)]; exact hB) (by rw [fuS_no (T := T) (V := V) (n := 225 * x + 15 * y) (n1 := 225 * x + 15 * y + (y + 1)) (by omega) (fun k k1 k2 k3 => by omega)]; exact hw)
      refine xinc 81 (1) ⟨u275, _, rfl⟩ rfl rfl rfl (by decide) (by omega) (by omega) (fun z78 h78 => ?_)
      refine xgoto ⟨u275, _, rfl⟩ ?_
      exact ih (y + 1) _ hp1 _ _ (by omega) (by omega) (by omega) k1 k2 k3 k4
theorem l275x {d V n : Nat} {T : sT} {ty : Nat → Int} {h : Nat → sR} {sv : Option sR} {hp0 : amH} {R : xQ} (hV15 : V ≤ 15) (hR : ∀ (w : Int32) hp, bHk 84 bTT hp → bFr [(67, 999)] hp0 hp → (P0 hp ∧ rfS hp (V, (fuS V T (3375)).1, ty) n h sv) → w.toInt = (((fuS V T (3375)).2 : Nat) : Int) → R (.inl (some (.int w))) hp) :
    ∀ (jj x : Nat) (wx : Int32) (hp : amH) (w : Int32) (v3 v4 : Option Value), wx.toInt = (x : Int) → x + jj = V → bHk 84 bTT hp → bFr [(67, 999)] hp0 hp → (P0 hp ∧ rfS hp (V, (fuS V T (225 * x)).1, ty) n h sv) → w.toInt = (((fuS V T (225 * x)).2 : Nat) : Int) → xV (d + 4) am_m275 13 [some (.ref 66), some (.int w), some (.int wx), v3, v4] [] hp R := by
  intro jj
  induction jj with
  | zero =>
    intro x wx hp w v3 v4 hwx hj hH hF hB hw
    have bV := hB.2.1.1
    refine xild 14 ⟨u275, _, rfl⟩ rfl rfl ?_
    refine xald 15 ⟨u275, _, rfl⟩ rfl rfl ?_
    refine xcall 18 [.ref 66] [.int _] hH ⟨u275, _, rfl⟩ rfl rfl rfl rfl rfl (k_points hH (fun z15 h15 => ⟨_, rfl, ?_⟩))
    refine xcmp_ge 21 ⟨u275, _, rfl⟩ rfl (fun c18 => ?_) (fun c18 => ?_)
    · refine xild 91 ⟨u275, _, rfl⟩ rfl rfl ?_
      exact xret ⟨u275, _, rfl⟩ rfl (hR _ hp hH hF (by rw [fuS_no (T := T) (V := V) (n := 225 * x) (n1 := 3375) (by omega) (fun k k1 k2 k3 => by omega)]; exact hB) (by rw [fuS_no (T := T) (V := V) (n := 225 * x) (n1 := 3375) (by omega) (fun k k1 k2 k3 => by omega)]; exact hw))
    · omega
  | succ jj ih =>
    intro x wx hp w v3 v4 hwx hj hH hF hB hw
    have bV := hB.2.1.1
    refine xild 14 ⟨u275, _, rfl⟩ rfl rfl ?_
    refine xald 15 ⟨u275, _, rfl⟩ rfl rfl ?_
    refine xcall 18 [.ref 66] [.int _] hH ⟨u275, _, rfl⟩ rfl rfl rfl rfl rfl (k_points hH (fun z15 h15 => ⟨_, rfl, ?_⟩))
    refine xcmp_ge 21 ⟨u275, _, rfl⟩ rfl (fun c18 => ?_) (fun c18 => ?_)
    · omega
    · refine xild 22 ⟨u275, _, rfl⟩ rfl rfl ?_
      refine xcst 23 (1) ⟨u275, _, rfl⟩ rfl (by decide) (fun z22 h22 => ?_)
      refine xadd 24 _ ⟨u275, _, rfl⟩ rfl rfl (by omega) (by omega) (fun z23 h23 => ?_)
      refine xist 25 ⟨u275, _, rfl⟩ rfl rfl ?_
      refine l275y hV15 hwx (by omega) (fun hp1 w1 v31 v41 k1 k2 k3 k4 => ?_) (V - (x + 1)) (x + 1) _ hp _ _ (by omega) (by omega) (by omega) hH hF (by rw [fuS_no (T := T) (V := V) (n := 225 * x) (n1 := 225 * x + 15 * (x + 1)) (by omega) (fun k k1 k2 k3 => by omega)]; exact hB) (by rw [fuS_no (T := T) (V := V) (n := 225 * x) (n1 := 225 * x + 15 * (x + 1)) (by omega) (fun k k1 k2 k3 => by omega)]; exact hw)
      refine xinc 87 (1) ⟨u275, _, rfl⟩ rfl rfl rfl (by decide) (by omega) (by omega) (fun z84 h84 => ?_)
      refine xgoto ⟨u275, _, rfl⟩ ?_
      exact ih (x + 1) _ hp1 _ _ _ (by omega) (by omega) k1 k2 k3 k4
theorem k_22E {d V : Nat} {T : sT} {hp : amH} {R : xQ} (hH : bHk 84 bTT hp) (hB : bdOk hp 3 V T) (hR : ∀ (w : Int32) hp1, bHk 84 bTT hp1 → bFx [4, 6] hp hp1 → bdOk hp1 3 V (fuS V T 3375).1 → w.toInt = (((fuS V T 3375).2 : Nat) : Int) → R (.inl (some (.int w))) hp1) : xK (d + 3) 22 [.ref 3] hp R := by
  refine xin (M := am_m22) rfl rfl rfl ?_
  refine xcst 1 (0) ⟨u22, _, rfl⟩ rfl (by decide) (fun z0 h0 => ?_)
  refine xist 2 ⟨u22, _, rfl⟩ rfl rfl ?_
  refine xcst 3 (0) ⟨u22, _, rfl⟩ rfl (by decide) (fun z2 h2 => ?_)
  refine xist 4 ⟨u22, _, rfl⟩ rfl rfl ?_
  refine xpad 2 ?_
  exact l22x hB.2.1.2.1 hR V 0 _ hp _ _ _ (by omega) (by omega) hH bFx.refl hB (by rw [h0]; rfl)
theorem k_129E {d V n : Nat} {h : Nat → sR} {sv : Option sR} {T : sT} {ty : Nat → Int} {hp : amH} {R : xQ} (hH : bHk 84 bTT hp) (hS : clS hp (V, T, ty) n h sv)
    (hR : ∀ (z : Int32) hp1, bHk 84 bTT hp1 → cF hp hp1 → clS hp1 (V, (fuS V T 3375).1, ty) (pM n + 1) (pH n h (V, T, ty)) sv → z.toInt = (((fuS V T 3375).2 : Nat) : Int) → R (.inl (some (.int z))) hp1) : xK (d + 6) 129 [.ref 0] hp R := by
  refine xin (M := am_m129) rfl rfl rfl ?_
  refine xald 1 ⟨u129, _, rfl⟩ rfl rfl ?_
  refine xcallC 4 (o := 0) [] [] hH ⟨u129, _, rfl⟩ rfl rfl (by decide) rfl (by decide) rfl ⟨rfl, rfl, rfl, rfl⟩ rfl (k_cmS hH hS (fun hp1 hH1 F1 S1 => ⟨_, rfl, ?_⟩))
  refine xald 5 ⟨u129, _, rfl⟩ rfl rfl ?_
  refine xgetD 8 (3) hH1 ⟨u129, _, rfl⟩ rfl (by decide) (by decide) rfl rfl (by decide) ?_
  refine xcallC 11 (o := 3) [] [] hH1 ⟨u129, _, rfl⟩ rfl rfl (by decide) rfl (by decide) rfl ⟨rfl, rfl, rfl, rfl⟩ rfl (k_22E hH1 (V := V) (T := T) S1.1 (fun z8 hp8 hH8 F8 B8 e8 => ⟨_, rfl, ?_⟩))
  refine xist 12 ⟨u129, _, rfl⟩ rfl rfl ?_
  refine xald 13 ⟨u129, _, rfl⟩ rfl rfl ?_
  refine xcallC 16 (o := 0) [] [] hH8 ⟨u129, _, rfl⟩ rfl rfl (by decide) rfl (by decide) rfl ⟨rfl, rfl, rfl, rfl⟩ rfl (k_stS hH8 (ty := ty) B8 (fun i hi => (bFx_n F8 (by simp)).trans (S1.2.2.2.1 i hi)) (hyC_fr S1.2.2.2.2 (fun c k c1 c2 => F8 c k (by simp; omega))) (fun hp13 hH13 F13 S13 => ⟨_, rfl, ?_⟩))
  refine xild 17 ⟨u129, _, rfl⟩ rfl rfl ?_
  exact xret ⟨u129, _, rfl⟩ rfl (hR _ hp13 hH13 ((cF_hy F1).trans ((cF_x F8 (by simp)).trans (cF_x F13 (by simp)))) S13 e8)
theorem k_275E {d V n : Nat} {h : Nat → sR} {sv : Option sR} {T : sT} {ty : Nat → Int} {hp : amH} {R : xQ} (hH : bHk 84 bTT hp) (hP : P0 hp) (hS : rfS hp (V, T, ty) n h sv)
    (hR : ∀ (z : Int32) hp1, bHk 84 bTT hp1 → P0 hp1 → bFr wM hp hp1 → rfS hp1 (V, (fuS V T 3375).1, ty) (pM n + 1) (pH n h (V, T, ty)) sv → z.toInt = (((fuS V T 3375).2 : Nat) : Int) → R (.inl (some (.int z))) hp1) : xK (d + 4) 275 [.ref 66] hp R := by
  have hV : V ≤ 15 := hS.1.2.1.2.1
  refine xin (M := am_m275) rfl rfl rfl ?_
  refine xald 1 ⟨u275, _, rfl⟩ rfl rfl ?_
  refine xcst 2 (0) ⟨u275, _, rfl⟩ rfl (by decide) (fun z1 h1 => ?_)
  refine xputI 5 hH ⟨u275, _, rfl⟩ rfl rfl ⟨rfl, rfl⟩ (by omega) (by omega) (fun hp2 hH2 U2 => ?_)
  have s2 := U2.1
  refine xald 6 ⟨u275, _, rfl⟩ rfl rfl ?_
  refine xcall 9 [.ref 66] [] hH2 ⟨u275, _, rfl⟩ rfl rfl rfl rfl rfl (k_rmS hH2 (P0_W (W := [(66, 7)]) (by decide) (rU_fr U2 rfl) hP) (rfS_W (W := [(66, 7)]) hS (rU_fr U2 rfl) (fun _ => rfl) rfl rfl (fun _ => rfl) (fun _ => rfl)) (fun hp6 hH6 P6 F6 S6 => ⟨_, rfl, ?_⟩))
  refine xcst 10 (0) ⟨u275, _, rfl⟩ rfl (by decide) (fun z9 h9 => ?_)
  refine xist 11 ⟨u275, _, rfl⟩ rfl rfl ?_
  refine xcst 12 (0) ⟨u275, _, rfl⟩ rfl (by decide) (fun z11 h11 => ?_)
  refine xist 13 ⟨u275, _, rfl⟩ rfl rfl ?_
  refine xpad 2 ?_
  exact l275x (T := T) (ty := ty) (h := pH n h (V, T, ty)) (n := pM n + 1) (sv := sv) hV (fun w hp1 k1 k2 k3 k4 => hR w hp1 k1 k3.1 (((rU_fr U2 (by decide)).trans (bFr_sub F6 (by decide))).trans (bFr_sub k2 (by decide))) k3.2 k4) V 0 _ hp6 _ _ _ (by omega) (by omega) hH6 (bFr.refl _ _) ⟨P6, S6⟩ (by rw [h9]; rfl)
end
