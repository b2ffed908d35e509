/-! ===== opposite on both sides ===== -/
def gOp (V : Nat) (T : sT) (a b : Int) : Int := if gTri (nQ T) a = 0 then gPt V b else 1
theorem gOp_0 {V : Nat} {T : sT} {a b : Int} : gOp V T a b = 0 ↔ gTri (nQ T) a = 0 ∧ gPt V b = 0 := by
  unfold gOp
  split
  · next g => simp [g]
  · next g => simp [g]
theorem gOp_1 {V : Nat} {T : sT} {a b : Int} (h : ¬ (gTri (nQ T) a = 0 ∧ gPt V b = 0)) : gOp V T a b = 1 := by
  unfold gOp
  split
  · next g => exact gPt_12.resolve_left (fun z => h ⟨g, z⟩)
  · rfl
def opV (T : sT) (q u : Nat) : Int := if (qU T (cQ2 T q)).testBit u = true then ((oppQ T (cQ2 T q) u : Nat) : Int) else -1
/-- a point of a quadrilateral and its opposite -/
theorem op_at {V : Nat} {T : sT} (hT : sOk V T) {n u : Nat} (hn : n < 42875) (h : qdB T n = true) (hu : (qU T n).testBit u = true) : opL T n u = 2 ^ oppQ T n u ∧ oppQ T n u < V ∧ lfL u (qU T n) (qG T n) = opL T n u := by
  obtain ⟨p, a, b, c, d, e, hV, h6, eG, eC, hU, -⟩ := qd_all hT hn h
  have k := opL_6 (V := V) h6 eG hU hu
  have k2 : oppQ T n u = o6 p a b c d e u := by unfold oppQ; rw [k, Nat.log2_two_pow]
  refine ⟨by rw [k2]; exact k, ?_, ?_⟩
  · rw [k2]
    unfold o6
    split
    · omega
    · split
      · omega
      · split
        · omega
        · split
          · omega
          · split <;> omega
  · have hold : ∃ m, m ∈ qG T n ∧ m.testBit u = true := by
      rw [eG]
      rcases (hU u).mp hu with z | z | z | z | z | z
      · exact ⟨m3 p a b, by simp, by rw [m3_test]; exact decide_eq_true (Or.inl z)⟩
      · exact ⟨m3 p a b, by simp, by rw [m3_test]; exact decide_eq_true (Or.inr (Or.inl z))⟩
      · exact ⟨m3 p a b, by simp, by rw [m3_test]; exact decide_eq_true (Or.inr (Or.inr z))⟩
      · exact ⟨m3 p c d, by simp, by rw [m3_test]; exact decide_eq_true (Or.inr (Or.inl z))⟩
      · exact ⟨m3 p c d, by simp, by rw [m3_test]; exact decide_eq_true (Or.inr (Or.inr z))⟩
      · exact ⟨m3 a c e, by simp, by rw [m3_test]; exact decide_eq_true (Or.inr (Or.inr z))⟩
    obtain ⟨m, hm, hmu⟩ := hold
    apply Nat.eq_of_testBit_eq
    intro v
    unfold opL
    rw [Bool.eq_iff_iff, lfL_test, lfL_test, nd_test, p2_test]
    constructor
    · intro z
      refine ⟨?_, z.2⟩
      have : ¬ v = u := fun w => z.2 m hm hmu (by rw [w]; exact hmu)
      simp [z.1, this]
    · intro z
      exact ⟨(Bool.and_eq_true _ _ ▸ z.1).1, z.2⟩
theorem mem_pow : ∀ i : Fin 15, memN (2 ^ i.1) 0 = (i.1 : Int) := by decide +kernel
theorem u61 : bUp 0 am_m61.1 = true := by decide +kernel
theorem l61E {d q n u V : Nat} {T : sT} {hp : amH} {R : xQ} {a b : Int32} (hT : sOk V T) (hH : bHk 84 bTT hp) (hQ : qdN hp T 42875) (hL : lsN hp 3 T 225) (hq : q < nQ T) (hn : cQ2 T q = n) (ha : a.toInt = (q : Int)) (hb : b.toInt = (u : Int)) (hu15 : u < 15) (hu : (qU T n).testBit u = true)
    (hR : ∀ z : Int32, z.toInt = ((oppQ T n u : Nat) : Int) → R (.inl (some (.int z))) hp) :
    ∀ (jj t : Nat) (w wt : Int32) (v6 : Option Value), wt.toInt = (t : Int) → t + jj = 4 → w.toInt = ((lfL u (qU T n) ((qG T n).take t) : Nat) : Int) → xV (d + 2) am_m61 24 [some (.ref 49), some (.ref 3), some (.int a), some (.int b), some (.int w), some (.int wt), v6] [] hp R := by
  obtain ⟨q1, q2, q3, q4, q5, q6, q7⟩ := qd_at hT hQ hq hn
  have ul : qU T n < 32768 := by rw [← hn]; exact qU_lt hT hq
  obtain ⟨o1, o2, o3⟩ := op_at hT q1 q2 hu
  have h15 := hT.2.1
  intro jj
  induction jj with
  | zero =>
    intro t w wt v6 hwt hj hw
    have et : t = 4 := by omega
    rw [et, show (qG T n).take 4 = qG T n from rfl, o3, o1] at hw
    have mp := mem_pow ⟨oppQ T n u, by omega⟩
    have mp : memN (2 ^ oppQ T n u) 0 = ((oppQ T n u : Nat) : Int) := mp
    have pl : 2 ^ oppQ T n u < 32768 := Nat.lt_of_lt_of_le (Nat.pow_lt_pow_right (by decide) (show oppQ T n u < 15 by omega)) (by decide)
    refine xild2 26 ⟨u61, _, rfl⟩ rfl rfl ?_
    refine xcst 27 (4) ⟨u61, _, rfl⟩ rfl (by decide) (fun z26 h26 => ?_)
    refine xcmp_ge 30 ⟨u61, _, rfl⟩ rfl (fun c27 => ?_) (fun c27 => ?_)
    · refine xild2 69 ⟨u61, _, rfl⟩ rfl rfl ?_
      refine xcst 70 (0) ⟨u61, _, rfl⟩ rfl (by decide) (fun z69 h69 => ?_)
      refine xcallS 73 [.int _, .int _] [] hH ⟨u61, _, rfl⟩ rfl rfl rfl rfl rfl (k_mem hH hw pl (i := 0) (by omega) (fun z70 h70 => ⟨_, rfl, ?_⟩))
      exact xret ⟨u61, _, rfl⟩ rfl (hR _ (by rw [h70, mp]))
    · omega
  | succ jj ih =>
    intro t w wt v6 hwt hj hw
    have tl : t < (qL T n).length := by show t < 4; omega
    have tg : t < (qG T n).length := by show t < 4; omega
    have gg := qC_get (T := T) (n := n) (show t < 4 by omega)
    have lt := q7 ((qL T n).getD t 0) (by rw [List.getD_eq_getElem?_getD, List.getElem?_eq_getElem tl]; exact List.getElem_mem _)
    have ml := (mN_lt hT lt).1
    have wl : lfL u (qU T n) ((qG T n).take t) < 32768 := lfL_lt ul
    have ap : lfL u (qU T n) ((qG T n).take (t + 1)) = if (mN T ((qL T n).getD t 0)).testBit u = true then ndif (lfL u (qU T n) ((qG T n).take t)) (mN T ((qL T n).getD t 0)) else lfL u (qU T n) ((qG T n).take t) := by
      rw [tk_succ tg, gg.2, lfL_app]
    refine xild2 26 ⟨u61, _, rfl⟩ rfl rfl ?_
    refine xcst 27 (4) ⟨u61, _, rfl⟩ rfl (by decide) (fun z26 h26 => ?_)
    refine xcmp_ge 30 ⟨u61, _, rfl⟩ rfl (fun c27 => ?_) (fun c27 => ?_)
    · omega
    · refine xald 31 ⟨u61, _, rfl⟩ rfl rfl ?_
      refine xald 32 ⟨u61, _, rfl⟩ rfl rfl ?_
      refine xild 33 ⟨u61, _, rfl⟩ rfl rfl ?_
      refine xild2 35 ⟨u61, _, rfl⟩ rfl rfl ?_
      refine xcallC 38 (o := 49) [.int _, .int _] [.ref 3] hH ⟨u61, _, rfl⟩ rfl rfl (by decide) rfl (by decide) rfl ⟨rfl, rfl, rfl, rfl⟩ rfl (k_trQ hH ha q3 q4 hwt tl q6 (by decide) (fun z35 h35 => ⟨_, rfl, ?_⟩))
      refine xcallC 41 (o := 3) [.int _] [] hH ⟨u61, _, rfl⟩ rfl rfl (by decide) rfl (by decide) rfl ⟨rfl, rfl, rfl, rfl⟩ rfl (k_setL hH hL h35 lt (fun z38 h38 => ⟨_, rfl, ?_⟩))
      refine xist2 43 ⟨u61, _, rfl⟩ rfl rfl ?_
      refine xild2 45 ⟨u61, _, rfl⟩ rfl rfl ?_
      refine xild 46 ⟨u61, _, rfl⟩ rfl rfl ?_
      refine xcallS 49 [.int _, .int _] [] hH ⟨u61, _, rfl⟩ rfl rfl rfl rfl rfl (k_has h38 ml hb hu15 (fun z46 h46 => ⟨_, rfl, ?_⟩))
      have h46 : (z46.toInt = 1 ∧ (mN T ((qL T n).getD t 0)).testBit u = true) ∨ (z46.toInt = 0 ∧ ¬ (mN T ((qL T n).getD t 0)).testBit u = true) := by
        by_cases q : (mN T ((qL T n).getD t 0)).testBit u = true
        · left; rw [h46, if_pos q]; exact ⟨rfl, q⟩
        · right; rw [h46, if_neg q]; exact ⟨rfl, q⟩
      refine xif_eq 52 ⟨u61, _, rfl⟩ rfl (fun c49 => ?_) (fun c49 => ?_)
      · refine xinc 64 (1) ⟨u61, _, rfl⟩ rfl rfl rfl (by decide) (by omega) (by omega) (fun z61 h61 => ?_)
        refine xgoto ⟨u61, _, rfl⟩ ?_
        have s0 : ¬ (mN T ((qL T n).getD t 0)).testBit u = true := by
          rcases h46 with ⟨q, -⟩ | ⟨-, q⟩
          · omega
          · exact q
        rw [if_neg s0] at ap
        exact ih (t + 1) _ _ _ (by omega) (by omega) (by rw [ap]; exact hw)
      · refine xild2 54 ⟨u61, _, rfl⟩ rfl rfl ?_
        refine xild2 56 ⟨u61, _, rfl⟩ rfl rfl ?_
        refine xcst 57 (-1) ⟨u61, _, rfl⟩ rfl (by decide) (fun z56 h56 => ?_)
        refine xxor 58 ⟨u61, _, rfl⟩ rfl ?_
        refine xand 59 ⟨u61, _, rfl⟩ rfl ?_
        have e58 := i_nd hw h38 wl (by omega) h56
        refine xist2 61 ⟨u61, _, rfl⟩ rfl rfl ?_
        refine xinc 64 (1) ⟨u61, _, rfl⟩ rfl rfl rfl (by decide) (by omega) (by omega) (fun z61 h61 => ?_)
        refine xgoto ⟨u61, _, rfl⟩ ?_
        have s1 : (mN T ((qL T n).getD t 0)).testBit u = true := by
          rcases h46 with ⟨-, q⟩ | ⟨q, -⟩
          · exact q
          · omega
        rw [if_pos s1] at ap
        exact ih (t + 1) _ _ _ (by omega) (by omega) (by rw [ap]; exact e58)
theorem k_61E {d q n u V : Nat} {T : sT} {hp : amH} {R : xQ} {a b : Int32} (hT : sOk V T) (hH : bHk 84 bTT hp) (hQ : qdN hp T 42875) (hL : lsN hp 3 T 225) (hq : q < nQ T) (hn : cQ2 T q = n) (ha : a.toInt = (q : Int)) (hb : b.toInt = (u : Int)) (hu15 : u < 15)
    (hR : ∀ z : Int32, z.toInt = opV T q u → R (.inl (some (.int z))) hp) : xK (d + 2) 61 [.ref 49, .ref 3, .int a, .int b] hp R := by
  obtain ⟨q1, q2, q3, q4, q5, q6, q7⟩ := qd_at hT hQ hq hn
  have ul : qU T n < 32768 := by rw [← hn]; exact qU_lt hT hq
  refine xin (M := am_m61) rfl rfl rfl ?_
  refine xald 1 ⟨u61, _, rfl⟩ rfl rfl ?_
  refine xild 2 ⟨u61, _, rfl⟩ rfl rfl ?_
  refine xcallC 5 (o := 49) [.int _] [] hH ⟨u61, _, rfl⟩ rfl rfl (by decide) rfl (by decide) rfl ⟨rfl, rfl, rfl, rfl⟩ rfl (k_ptQ hH ha q3 (fun z2 h2 => ⟨_, rfl, ?_⟩))
  have h2 : z2.toInt = ((qU T n : Nat) : Int) := h2.trans q5
  refine xild 6 ⟨u61, _, rfl⟩ rfl rfl ?_
  refine xcallS 9 [.int _, .int _] [] hH ⟨u61, _, rfl⟩ rfl rfl rfl rfl rfl (k_has h2 ul hb hu15 (fun z6 h6 => ⟨_, rfl, ?_⟩))
  have h6 : (z6.toInt = 1 ∧ (qU T n).testBit u = true) ∨ (z6.toInt = 0 ∧ ¬ (qU T n).testBit u = true) := by
    by_cases q : (qU T n).testBit u = true
    · left; rw [h6, if_pos q]; exact ⟨rfl, q⟩
    · right; rw [h6, if_neg q]; exact ⟨rfl, q⟩
  refine xif_ne 12 ⟨u61, _, rfl⟩ rfl (fun c9 => ?_) (fun c9 => ?_)
  · have hu : (qU T n).testBit u = true := by
      rcases h6 with ⟨-, q⟩ | ⟨q, -⟩
      · exact q
      · omega
    refine xald 15 ⟨u61, _, rfl⟩ rfl rfl ?_
    refine xild 16 ⟨u61, _, rfl⟩ rfl rfl ?_
    refine xcallC 19 (o := 49) [.int _] [] hH ⟨u61, _, rfl⟩ rfl rfl (by decide) rfl (by decide) rfl ⟨rfl, rfl, rfl, rfl⟩ rfl (k_ptQ hH ha q3 (fun z16 h16 => ⟨_, rfl, ?_⟩))
    have h16 : z16.toInt = ((qU T n : Nat) : Int) := h16.trans q5
    refine xist2 21 ⟨u61, _, rfl⟩ rfl rfl ?_
    refine xcst 22 (0) ⟨u61, _, rfl⟩ rfl (by decide) (fun z21 h21 => ?_)
    refine xist2 24 ⟨u61, _, rfl⟩ rfl rfl ?_
    refine xpad 1 ?_
    exact l61E hT hH hQ hL hq hn ha hb hu15 hu (fun z e => hR z (by unfold opV; rw [hn, if_pos hu]; exact e)) 4 0 _ _ _ h21 (by omega) h16
  · refine xcst 13 (-1) ⟨u61, _, rfl⟩ rfl (by decide) (fun z12 h12 => ?_)
    exact xret ⟨u61, _, rfl⟩ rfl (hR _ (by unfold opV; rw [hn, if_neg (by rcases h6 with ⟨q, -⟩ | ⟨-, q⟩; omega; exact q)]; exact h12))
theorem u133 : bUp 0 am_m133.1 = true := by decide +kernel
theorem k_133E {d V n : Nat} {h : Nat → sR} {sv : Option sR} {T : sT} {ty : Nat → Int} {hp : amH} {R : xQ} {a b : Int32} (hH : bHk 84 bTT hp) (hS : clS hp (V, T, ty) n h sv)
    (hT : ∀ E hp1, bHk 84 bTT hp1 → cF hp hp1 → clS hp1 (V, T, ty) n h sv → ¬ gOp V T a.toInt b.toInt = 0 → ((gOp V T a.toInt b.toInt = 1 ∧ E = 1)) → R (.inr E) hp1)
    (hR : ∀ (z : Int32) hp1, bHk 84 bTT hp1 → cF hp hp1 → gOp V T a.toInt b.toInt = 0 → clS hp1 (V, T, ty) n h sv → z.toInt = opV T a.toInt.toNat b.toInt.toNat → R (.inl (some (.int z))) hp1) : xK (d + 4) 133 [.ref 0, .int a, .int b] hp R := by
  have hB : bdOk hp 3 V T := hS.1
  have b0 : rN hp 3 0 = (V : Int) := hB.1
  have hL : lsN hp 3 T 225 := hS.2.1
  have b1 : rN hp 3 1 = (((trL T 225).length : Nat) : Int) := hL.1
  have hT0 : sOk V T := hB.2.1
  have h15 : V ≤ 15 := hT0.2.1
  have l35 : (trL T 225).length ≤ 35 := trL_35 hT0 225
  refine xin (M := am_m133) rfl rfl rfl ?_
  refine xald 1 ⟨u133, _, rfl⟩ rfl rfl ?_
  refine xild 2 ⟨u133, _, rfl⟩ rfl rfl ?_
  refine xcallT 5 (o := 0) [.int _] [] hH ⟨u133, _, rfl⟩ rfl rfl (by decide) rfl (by decide) rfl ⟨rfl, rfl, rfl, rfl⟩ rfl (k_rqQ hH hS.2.2.1.1 (fun g2 => Or.inl ⟨_, rfl, ?_⟩) (fun g2 => Or.inr ⟨_, rfl, rfl, hT _ hp hH cF.refl hS (by rw [gOp_1 (fun z => by have := z.1; omega)]; decide) ⟨gOp_1 (fun z => by have := z.1; omega), rfl⟩⟩))
  have k2 := gTri_0.mp g2
  refine xald 6 ⟨u133, _, rfl⟩ rfl rfl ?_
  refine xild 7 ⟨u133, _, rfl⟩ rfl rfl ?_
  refine xcallT 10 (o := 0) [.int _] [] hH ⟨u133, _, rfl⟩ rfl rfl (by decide) rfl (by decide) rfl ⟨rfl, rfl, rfl, rfl⟩ rfl (k_rq1 hH b0 (fun g7 => Or.inl ⟨_, rfl, ?_⟩) (fun g7 => Or.inr ⟨_, rfl, rfl, hT _ hp hH cF.refl hS (by rw [gOp_1 (fun z => by have := z.2; omega)]; decide) ⟨gOp_1 (fun z => by have := z.2; omega), rfl⟩⟩))
  have k7 := gPt_0.mp g7
  refine xald 11 ⟨u133, _, rfl⟩ rfl rfl ?_
  refine xgetD 14 (49) hH ⟨u133, _, rfl⟩ rfl (by decide) (by decide) rfl rfl (by decide) ?_
  refine xald 15 ⟨u133, _, rfl⟩ rfl rfl ?_
  refine xgetD 18 (3) hH ⟨u133, _, rfl⟩ rfl (by decide) (by decide) rfl rfl (by decide) ?_
  refine xild 19 ⟨u133, _, rfl⟩ rfl rfl ?_
  refine xild 20 ⟨u133, _, rfl⟩ rfl rfl ?_
  refine xcallC 23 (o := 49) [.ref 3, .int _, .int _] [] hH ⟨u133, _, rfl⟩ rfl rfl (by decide) rfl (by decide) rfl ⟨rfl, rfl, rfl, rfl⟩ rfl (k_61E hT0 hH hS.2.2.1 hL (q := a.toInt.toNat) (u := b.toInt.toNat) (by show a.toInt.toNat < nQ T; omega) rfl (by omega) (by omega) (by omega) (fun z20 h20 => ⟨_, rfl, ?_⟩))
  exact xret ⟨u133, _, rfl⟩ rfl (hR _ _ hH cF.refl (gOp_0.mpr ⟨g2, g7⟩) hS h20)
theorem u289 : bUp 0 am_m289.1 = true := by decide +kernel
theorem k_289E {d V n : Nat} {h : Nat → sR} {sv : Option sR} {T : sT} {ty : Nat → Int} {hp : amH} {R : xQ} {a b : Int32} (hH : bHk 84 bTT hp) (hP : P0 hp) (hS : rfS hp (V, T, ty) n h sv)
    (hR : ∀ (z : Int32) hp1, bHk 84 bTT hp1 → P0 hp1 → bFr wM hp hp1 → rN hp1 66 7 = gOp V T a.toInt b.toInt → ((¬ gOp V T a.toInt b.toInt = 0 ∧ rfS hp1 (V, T, ty) n h sv) ∨ (gOp V T a.toInt b.toInt = 0 ∧ rfS hp1 (V, T, ty) n h sv ∧ z.toInt = opV T a.toInt.toNat b.toInt.toNat)) → R (.inl (some (.int z))) hp1) : xK (d + 6) 289 [.ref 66, .int a, .int b] hp R := by
  have hB : rdOk hp V T := rowOk_rd hS.1
  have b0 : rN hp 67 0 = (V : Int) := hB.1
  have hT0 : sOk V T := hB.2.1
  have h15 : V ≤ 15 := hT0.2.1
  have l35 : (trL T 225).length ≤ 35 := trL_35 hT0 225
  refine xin (M := am_m289) rfl rfl rfl ?_
  refine xald 1 ⟨u289, _, rfl⟩ rfl rfl ?_
  refine xild 2 ⟨u289, _, rfl⟩ rfl rfl ?_
  refine xcall 5 [.ref 66, .int _] [] hH ⟨u289, _, rfl⟩ rfl rfl rfl rfl rfl (k_gqd hH hB (fun z2 hp2 hH2 F2 B2 L2 Q2 t2 o2 => ⟨_, rfl, ?_⟩))
  have S2 := rfS_W hS F2 (fun _ => rfl) rfl rfl (fun _ => rfl) (fun _ => rfl)
  have P2 : P0 hp2 := P0_W (W := (66, 7) :: wLQE) (by decide) F2 hP
  refine xif_ne 8 ⟨u289, _, rfl⟩ rfl (fun c5 => ?_) (fun c5 => ?_)
  · refine xcst 17 (0) ⟨u289, _, rfl⟩ rfl (by decide) (fun z16 h16 => ?_)
    exact xret ⟨u289, _, rfl⟩ rfl (hR _ hp2 hH2 P2 (bFr_sub F2 (by decide)) (by rw [t2, gOp_1 (fun z => by have := z.1; omega)]; omega) (Or.inl ⟨by rw [gOp_1 (fun z => by have := z.1; omega)]; decide, S2⟩))
  · have g2 : gTri (nQ T) a.toInt = 0 := by omega
    have k2 := gTri_0.mp g2
    refine xald 9 ⟨u289, _, rfl⟩ rfl rfl ?_
    refine xild 10 ⟨u289, _, rfl⟩ rfl rfl ?_
    refine xcall 13 [.ref 66, .int _] [] hH2 ⟨u289, _, rfl⟩ rfl rfl rfl rfl rfl (k_gp1 hH2 (rowOk_rd S2.1).1 h15 (fun z10 hp10 hH10 F10 t10 o10 => ⟨_, rfl, ?_⟩))
    have S10 := rfS_W S2 F10 (fun _ => rfl) rfl rfl (fun _ => rfl) (fun _ => rfl)
    have P10 : P0 hp10 := P0_W (W := [(66, 7)]) (by decide) F10 P2
    refine xif_eq 16 ⟨u289, _, rfl⟩ rfl (fun c13 => ?_) (fun c13 => ?_)
    · have g10 : gPt V b.toInt = 0 := by omega
      have k10 := gPt_0.mp g10
      have L10 : rlN hp10 T 225 := rlN_fr L2 (r_fr F10 rfl) (fun i => r_fr F10 rfl) (fun i => r_fr F10 rfl) (fun i => r_fr F10 rfl) (fun i => r_fr F10 rfl)
      have Q10 : rqN hp10 T 42875 := rqN_fr Q2 (r_fr F10 rfl) (fun i => r_fr F10 rfl)
      refine xald 19 ⟨u289, _, rfl⟩ rfl rfl ?_
      refine xild 20 ⟨u289, _, rfl⟩ rfl rfl ?_
      refine xcall 23 [.ref 66, .int _] [] hH10 ⟨u289, _, rfl⟩ rfl rfl rfl rfl rfl (k_qpE hH10 hT0 L10 Q10 (q := a.toInt.toNat) (by show a.toInt.toNat < nQ T; omega) (by omega) (fun z20 h20 => ⟨_, rfl, ?_⟩))
      refine xild 24 ⟨u289, _, rfl⟩ rfl rfl ?_
      refine xshr 25 ⟨u289, _, rfl⟩ rfl ?_
      refine xcst 26 (1) ⟨u289, _, rfl⟩ rfl (by decide) (fun z25 h25 => ?_)
      refine xand 27 ⟨u289, _, rfl⟩ rfl ?_
      refine xcst 28 (1) ⟨u289, _, rfl⟩ rfl (by decide) (fun z27 h27 => ?_)
      have eb := i_bit h20 (qU_lt hT0 (show a.toInt.toNat < nQ T by omega)) (show b.toInt = ((b.toInt.toNat : Nat) : Int) by omega) (by omega) h25
      have eb : (((z20 >>> (b &&& 31)) &&& z25).toInt = 1 ∧ (qU T (cQ2 T a.toInt.toNat)).testBit b.toInt.toNat = true) ∨ (((z20 >>> (b &&& 31)) &&& z25).toInt = 0 ∧ ¬ (qU T (cQ2 T a.toInt.toNat)).testBit b.toInt.toNat = true) := by
        by_cases q : (qU T (cQ2 T a.toInt.toNat)).testBit b.toInt.toNat = true
        · left; rw [eb, if_pos q]; exact ⟨rfl, q⟩
        · right; rw [eb, if_neg q]; exact ⟨rfl, q⟩
      refine xcmp_ne 31 ⟨u289, _, rfl⟩ rfl (fun c28 => ?_) (fun c28 => ?_)
      · refine xcst 41 (-1) ⟨u289, _, rfl⟩ rfl (by decide) (fun z40 h40 => ?_)
        exact xret ⟨u289, _, rfl⟩ rfl (hR _ hp10 hH10 P10 ((bFr_sub F2 (by decide)).trans (bFr_sub F10 (by decide))) (by rw [t10, gOp_0.mpr ⟨g2, g10⟩]; exact g10) (Or.inr ⟨gOp_0.mpr ⟨g2, g10⟩, S10, by unfold opV; rw [if_neg (by rcases eb with ⟨q, -⟩ | ⟨-, q⟩; omega; exact q)]; exact h40⟩))
      · have hu : (qU T (cQ2 T a.toInt.toNat)).testBit b.toInt.toNat = true := by
          rcases eb with ⟨-, q⟩ | ⟨q, -⟩
          · exact q
          · omega
        obtain ⟨f1, f2, -⟩ := fL_get 42875 a.toInt.toNat (show a.toInt.toNat < (fL (qdB T) 42875).length by omega)
        obtain ⟨o1, o2, -⟩ := op_at hT0 f2 f1 hu
        refine xald 32 ⟨u289, _, rfl⟩ rfl rfl ?_
        refine xild 33 ⟨u289, _, rfl⟩ rfl rfl ?_
        refine xild 34 ⟨u289, _, rfl⟩ rfl rfl ?_
        refine xcall 37 [.ref 66, .int _, .int _] [] hH10 ⟨u289, _, rfl⟩ rfl rfl rfl rfl rfl (k_opE hH10 hT0 L10 Q10 (q := a.toInt.toNat) (u := b.toInt.toNat) (by show a.toInt.toNat < nQ T; omega) (by omega) (by omega) (by omega) o1 (by omega) (fun z34 h34 => ⟨_, rfl, ?_⟩))
        refine xgoto ⟨u289, _, rfl⟩ ?_
        exact xret ⟨u289, _, rfl⟩ rfl (hR _ hp10 hH10 P10 ((bFr_sub F2 (by decide)).trans (bFr_sub F10 (by decide))) (by rw [t10, gOp_0.mpr ⟨g2, g10⟩]; exact g10) (Or.inr ⟨gOp_0.mpr ⟨g2, g10⟩, S10, by unfold opV; rw [if_pos hu]; exact h34⟩))
    · refine xcst 17 (0) ⟨u289, _, rfl⟩ rfl (by decide) (fun z16 h16 => ?_)
      exact xret ⟨u289, _, rfl⟩ rfl (hR _ hp10 hH10 P10 ((bFr_sub F2 (by decide)).trans (bFr_sub F10 (by decide))) (by rw [t10, gOp_1 (fun z => by have := z.2; omega)]; omega) (Or.inl ⟨by rw [gOp_1 (fun z => by have := z.2; omega)]; decide, S10⟩))
theorem h359E {d : Nat} {hp : amH} {R : cQ} {x1 x2 : Int32} {V n : Nat} {h : Nat → sR} {sv : Option sR} {T : sT} {ty : Nat → Int} (hI : lawI hp) (c : clS hp (V, T, ty) n h sv) (r : rfS hp (V, T, ty) n h sv)
    (hR : ∀ (z : Int32) hp1 mc ms, lawI hp1 → rfS hp1 (V, T, ty) n h sv → z.toInt = gOp V T x1.toInt x2.toInt → ((¬ gOp V T x1.toInt x2.toInt = 0 ∧ clS hp1 (V, T, ty) n h sv) ∨ (gOp V T x1.toInt x2.toInt = 0 ∧ clS hp1 (V, T, ty) n h sv ∧ rJ hp1 83 0 = opV T x1.toInt.toNat x2.toInt.toNat)) → mc ≤ 1 → ms ≤ 6 → R (.inl (some (.int z))) hp1 mc ms) : cK (d + 20) 359 [.ref 0, .int x1, .int x2, .ref 83] hp R := by
  refine cin (M := am_m359) rfl rfl rfl ?_
  refine cald 1 ⟨u359J, _, rfl⟩ rfl rfl ?_
  refine ccst 2 (0) ⟨u359J, _, rfl⟩ rfl (by decide) (fun z1 h1 => ?_)
  refine cald 3 ⟨u359J, _, rfl⟩ rfl rfl ?_
  refine cild 4 ⟨u359J, _, rfl⟩ rfl rfl ?_
  refine cild 5 ⟨u359J, _, rfl⟩ rfl rfl ?_
  refine ccall (kd := 0) (t := 1) [.ref 0, .int _, .int _] [.int _, .ref 83] hI.1 ⟨u359J, _, rfl⟩ (Or.inl ⟨_, rfl, rfl, by decide, by decide⟩) rfl rfl rfl ⟨rfl, rfl, rfl⟩ rfl (recv0 hI.1 _) rfl (qKE (Φ := fun z hp1 => bHk 84 bTT hp1 ∧ cF hp hp1 ∧ gOp V T x1.toInt x2.toInt = 0 ∧ clS hp1 (V, T, ty) n h sv ∧ z.toInt = opV T x1.toInt.toNat x2.toInt.toNat) (Ψ := fun E hp1 => lawI hp1 ∧ rfS hp1 (V, T, ty) n h sv ∧ clS hp1 (V, T, ty) n h sv ∧ ¬ gOp V T x1.toInt x2.toInt = 0 ∧ ((gOp V T x1.toInt x2.toInt = 1 ∧ E = 1))) (fun R g1 g2 => k_133E (d := d + 15) hI.1 c (fun E hp1 b1 b2 b3 e1 e2 => g2 E hp1 ⟨law_cl hI b1 b2, cF_rf b2 r, b3, e1, e2⟩) (fun z hp1 a1 a2 a3 a4 a5 => g1 z hp1 ⟨a1, a2, a3, a4, a5⟩)) (fun z hp1 φ => Or.inl ⟨_, rfl, ?_⟩) (fun E hp1 ψ => Or.inr ?_))
  · refine ci2lE 9 ⟨u359J, _, rfl⟩ rfl (fun w hw => ?_)
    refine clastE 10 φ.1 ⟨u359J, _, rfl⟩ rfl h1 (fun hp2 hH2 F2 J2 => ?_)
    refine cgoto ⟨u359J, _, rfl⟩ ?_
    refine ccst 18 (0) ⟨u359J, _, rfl⟩ rfl (by decide) (fun z9 h9 => ?_)
    exact cret ⟨u359J, _, rfl⟩ (Or.inl rfl) (hR _ _ _ _ (lawI_83 (law_cl hI φ.1 φ.2.1) hH2 F2) (rf_83 F2 (cF_rf φ.2.1 r)) (by rw [φ.2.2.1]; exact h9) (Or.inr ⟨φ.2.2.1, cl_83 F2 φ.2.2.2.1, by rw [J2, hw]; exact φ.2.2.2.2⟩) (by decide) (by decide))
  · obtain ⟨ψ0, ψr, ψc, ψ1, ψ2⟩ := ψ
    obtain ⟨ce, rfl⟩ := ψ2
    refine ⟨1, 13, 4, 15, rfl, rfl, rfl, rfl, ?_⟩
    refine ccst 16 (1) ⟨u359J, _, rfl⟩ rfl (by decide) (fun z9 h9 => ?_)
    exact cret ⟨u359J, _, rfl⟩ (Or.inl rfl) (hR _ _ _ _ ψ0 ψr (by rw [ce]; exact h9) (Or.inl ⟨ψ1, ψc⟩) (by decide) (by decide))
