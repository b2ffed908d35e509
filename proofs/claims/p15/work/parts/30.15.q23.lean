/-! ===== quadsAt on both sides ===== -/
/-- how many of the first quadrilaterals hold a point -/
def qaC (T : sT) (p n : Nat) : Nat := sm (fun q => iv ((qU T (cQ2 T q)).testBit p = true)) n
theorem qaC_s {T : sT} {p n : Nat} : qaC T p (n + 1) = qaC T p n + iv ((qU T (cQ2 T n)).testBit p = true) := rfl
theorem qaC_le {T : sT} {p : Nat} : ∀ n, qaC T p n ≤ n
  | 0 => Nat.le_refl _
  | n + 1 => by
    have h1 := qaC_le (T := T) (p := p) n
    have h2 : iv ((qU T (cQ2 T n)).testBit p = true) ≤ 1 := iv_le
    rw [qaC_s]
    omega
theorem u62 : bUp 0 am_m62.1 = true := by decide +kernel
theorem l62E {d p V : Nat} {T : sT} {hp : amH} {R : xQ} {a : Int32} (hT : sOk V T) (hH : bHk 84 bTT hp) (hQ : qdN hp T 42875) (ha : a.toInt = (p : Int)) (hp15 : p < 15)
    (hR : ∀ z : Int32, z.toInt = ((qaC T p (nQ T) : Nat) : Int) → R (.inl (some (.int z))) hp) :
    ∀ (jj t : Nat) (w wt : Int32), wt.toInt = (t : Int) → t + jj = nQ T → w.toInt = ((qaC T p t : Nat) : Int) → xV (d + 1) am_m62 4 [some (.ref 49), some (.int a), some (.int w), some (.int wt)] [] hp R := by
  have l105 := q105 hT
  have L1 : rN hp 49 0 = ((nQ T : Nat) : Int) := hQ.1
  intro jj
  induction jj with
  | zero =>
    intro t w wt hwt hj hw
    have et : nQ T = t := by omega
    have hR2 : ∀ z : Int32, z.toInt = ((qaC T p t : Nat) : Int) → R (.inl (some (.int z))) hp := by rw [← et]; exact hR
    refine xild 5 ⟨u62, _, rfl⟩ rfl rfl ?_
    refine xald 6 ⟨u62, _, rfl⟩ rfl rfl ?_
    refine xgetC 9 hH ⟨u62, _, rfl⟩ rfl (by decide) (by decide) rfl rfl (by decide) (fun z6 h6 => ?_)
    refine xcmp_ge 12 ⟨u62, _, rfl⟩ rfl (fun c9 => ?_) (fun c9 => ?_)
    · refine xild 34 ⟨u62, _, rfl⟩ rfl rfl ?_
      exact xret ⟨u62, _, rfl⟩ rfl (hR2 _ hw)
    · omega
  | succ jj ih =>
    intro t w wt hwt hj hw
    have k2 := qaC_le (T := T) (p := p) t
    have k3 := qaC_s (T := T) (p := p) (n := t)
    obtain ⟨q1, q2, q3, q4, q5, q6, q7⟩ := qd_at hT hQ (q := t) (show t < nQ T by omega) rfl
    have ql := qU_lt hT (q := t) (show t < nQ T by omega)
    refine xild 5 ⟨u62, _, rfl⟩ rfl rfl ?_
    refine xald 6 ⟨u62, _, rfl⟩ rfl rfl ?_
    refine xgetC 9 hH ⟨u62, _, rfl⟩ rfl (by decide) (by decide) rfl rfl (by decide) (fun z6 h6 => ?_)
    refine xcmp_ge 12 ⟨u62, _, rfl⟩ rfl (fun c9 => ?_) (fun c9 => ?_)
    · omega
    · refine xald 13 ⟨u62, _, rfl⟩ rfl rfl ?_
      refine xild 14 ⟨u62, _, rfl⟩ rfl rfl ?_
      refine xcallC 17 (o := 49) [.int _] [] hH ⟨u62, _, rfl⟩ rfl rfl (by decide) rfl (by decide) rfl ⟨rfl, rfl, rfl, rfl⟩ rfl (k_ptQ hH hwt q3 (fun z14 h14 => ⟨_, rfl, ?_⟩))
      have h14 : z14.toInt = ((qU T (cQ2 T t) : Nat) : Int) := h14.trans q5
      refine xild 18 ⟨u62, _, rfl⟩ rfl rfl ?_
      refine xcallS 21 [.int _, .int _] [] hH ⟨u62, _, rfl⟩ rfl rfl rfl rfl rfl (k_has h14 ql ha hp15 (fun z18 h18 => ⟨_, rfl, ?_⟩))
      have h18 : (z18.toInt = 1 ∧ (qU T (cQ2 T t)).testBit p = true) ∨ (z18.toInt = 0 ∧ ¬ (qU T (cQ2 T t)).testBit p = true) := by
        by_cases q : (qU T (cQ2 T t)).testBit p = true
        · left; rw [h18, if_pos q]; exact ⟨rfl, q⟩
        · right; rw [h18, if_neg q]; exact ⟨rfl, q⟩
      refine xif_eq 24 ⟨u62, _, rfl⟩ rfl (fun c21 => ?_) (fun c21 => ?_)
      · refine xinc 30 (1) ⟨u62, _, rfl⟩ rfl rfl rfl (by decide) (by omega) (by omega) (fun z27 h27 => ?_)
        refine xgoto ⟨u62, _, rfl⟩ ?_
        have s0 : ¬ (qU T (cQ2 T t)).testBit p = true := by
          rcases h18 with ⟨q, -⟩ | ⟨-, q⟩
          · omega
          · exact q
        rw [iv_f s0] at k3
        exact ih (t + 1) _ _ (by omega) (by omega) (by omega)
      · refine xinc 27 (1) ⟨u62, _, rfl⟩ rfl rfl rfl (by decide) (by omega) (by omega) (fun z24 h24 => ?_)
        refine xinc 30 (1) ⟨u62, _, rfl⟩ rfl rfl rfl (by decide) (by omega) (by omega) (fun z27 h27 => ?_)
        refine xgoto ⟨u62, _, rfl⟩ ?_
        have s1 : (qU T (cQ2 T t)).testBit p = true := by
          rcases h18 with ⟨-, q⟩ | ⟨q, -⟩
          · exact q
          · omega
        rw [iv_t s1] at k3
        exact ih (t + 1) _ _ (by omega) (by omega) (by omega)
theorem k_62E {d p V : Nat} {T : sT} {hp : amH} {R : xQ} {a : Int32} (hT : sOk V T) (hH : bHk 84 bTT hp) (hQ : qdN hp T 42875) (ha : a.toInt = (p : Int)) (hp15 : p < 15)
    (hR : ∀ z : Int32, z.toInt = ((qaC T p (nQ T) : Nat) : Int) → R (.inl (some (.int z))) hp) : xK (d + 1) 62 [.ref 49, .int a] hp R := by
  refine xin (M := am_m62) rfl rfl rfl ?_
  refine xcst 1 (0) ⟨u62, _, rfl⟩ rfl (by decide) (fun z0 h0 => ?_)
  refine xist 2 ⟨u62, _, rfl⟩ rfl rfl ?_
  refine xcst 3 (0) ⟨u62, _, rfl⟩ rfl (by decide) (fun z2 h2 => ?_)
  refine xist 4 ⟨u62, _, rfl⟩ rfl rfl ?_
  exact l62E hT hH hQ ha hp15 hR (nQ T) 0 _ _ h2 (by omega) h0
theorem u134 : bUp 0 am_m134.1 = true := by decide +kernel
theorem k_134E {d V n : Nat} {h : Nat → sR} {sv : Option sR} {T : sT} {ty : Nat → Int} {hp : amH} {R : xQ} {a : Int32} (hH : bHk 84 bTT hp) (hS : clS hp (V, T, ty) n h sv)
    (hT : ∀ E hp1, bHk 84 bTT hp1 → cF hp hp1 → clS hp1 (V, T, ty) n h sv → ¬ gPt V a.toInt = 0 → ((gPt V a.toInt = 1 ∧ E = 1)) → R (.inr E) hp1)
    (hR : ∀ (z : Int32) hp1, bHk 84 bTT hp1 → cF hp hp1 → gPt V a.toInt = 0 → clS hp1 (V, T, ty) n h sv → z.toInt = ((qaC T a.toInt.toNat (nQ T) : Nat) : Int) → R (.inl (some (.int z))) hp1) : xK (d + 4) 134 [.ref 0, .int a] hp R := by
  have hB : bdOk hp 3 V T := hS.1
  have b0 : rN hp 3 0 = (V : Int) := hB.1
  have hL : lsN hp 3 T 225 := hS.2.1
  have b1 : rN hp 3 1 = (((trL T 225).length : Nat) : Int) := hL.1
  have hT0 : sOk V T := hB.2.1
  have h15 : V ≤ 15 := hT0.2.1
  have l35 : (trL T 225).length ≤ 35 := trL_35 hT0 225
  refine xin (M := am_m134) rfl rfl rfl ?_
  refine xald 1 ⟨u134, _, rfl⟩ rfl rfl ?_
  refine xild 2 ⟨u134, _, rfl⟩ rfl rfl ?_
  refine xcallT 5 (o := 0) [.int _] [] hH ⟨u134, _, rfl⟩ rfl rfl (by decide) rfl (by decide) rfl ⟨rfl, rfl, rfl, rfl⟩ rfl (k_rq1 hH b0 (fun g2 => Or.inl ⟨_, rfl, ?_⟩) (fun g2 => Or.inr ⟨_, rfl, rfl, hT _ hp hH cF.refl hS (by omega) ⟨g2, rfl⟩⟩))
  have k2 := gPt_0.mp g2
  refine xald 6 ⟨u134, _, rfl⟩ rfl rfl ?_
  refine xgetD 9 (49) hH ⟨u134, _, rfl⟩ rfl (by decide) (by decide) rfl rfl (by decide) ?_
  refine xild 10 ⟨u134, _, rfl⟩ rfl rfl ?_
  refine xcallC 13 (o := 49) [.int _] [] hH ⟨u134, _, rfl⟩ rfl rfl (by decide) rfl (by decide) rfl ⟨rfl, rfl, rfl, rfl⟩ rfl (k_62E hT0 hH hS.2.2.1 (p := a.toInt.toNat) (by omega) (by omega) (fun z10 h10 => ⟨_, rfl, ?_⟩))
  exact xret ⟨u134, _, rfl⟩ rfl (hR _ _ hH cF.refl g2 hS h10)
theorem u290 : bUp 0 am_m290.1 = true := by decide +kernel
theorem l290E {d p V : Nat} {T : sT} {hp : amH} {R : xQ} {a : Int32} (hT : sOk V T) (hH : bHk 84 bTT hp) (hL : rlN hp T 225) (hQ : rqN hp T 42875) (ha : a.toInt = (p : Int)) (hp15 : p < 15)
    (hR : ∀ z : Int32, z.toInt = ((qaC T p (nQ T) : Nat) : Int) → R (.inl (some (.int z))) hp) :
    ∀ (jj t : Nat) (w wt : Int32), wt.toInt = (t : Int) → t + jj = nQ T → w.toInt = ((qaC T p t : Nat) : Int) → xV (d + 1) am_m290 18 [some (.ref 66), some (.int a), some (.int w), some (.int wt)] [] hp R := by
  have l105 := q105 hT
  have L1 : rN hp 66 14 = ((nQ T : Nat) : Int) := hQ.1
  intro jj
  induction jj with
  | zero =>
    intro t w wt hwt hj hw
    have et : nQ T = t := by omega
    have hR2 : ∀ z : Int32, z.toInt = ((qaC T p t : Nat) : Int) → R (.inl (some (.int z))) hp := by rw [← et]; exact hR
    refine xild 19 ⟨u290, _, rfl⟩ rfl rfl ?_
    refine xald 20 ⟨u290, _, rfl⟩ rfl rfl ?_
    refine xgetI 23 hH ⟨u290, _, rfl⟩ rfl rfl (fun z20 h20 => ?_)
    refine xcmp_ge 26 ⟨u290, _, rfl⟩ rfl (fun c23 => ?_) (fun c23 => ?_)
    · refine xild 45 ⟨u290, _, rfl⟩ rfl rfl ?_
      exact xret ⟨u290, _, rfl⟩ rfl (hR2 _ hw)
    · omega
  | succ jj ih =>
    intro t w wt hwt hj hw
    have k2 := qaC_le (T := T) (p := p) t
    have k3 := qaC_s (T := T) (p := p) (n := t)
    have ql := qU_lt hT (q := t) (show t < nQ T by omega)
    refine xild 19 ⟨u290, _, rfl⟩ rfl rfl ?_
    refine xald 20 ⟨u290, _, rfl⟩ rfl rfl ?_
    refine xgetI 23 hH ⟨u290, _, rfl⟩ rfl rfl (fun z20 h20 => ?_)
    refine xcmp_ge 26 ⟨u290, _, rfl⟩ rfl (fun c23 => ?_) (fun c23 => ?_)
    · omega
    · refine xild 27 ⟨u290, _, rfl⟩ rfl rfl ?_
      refine xald 28 ⟨u290, _, rfl⟩ rfl rfl ?_
      refine xild 29 ⟨u290, _, rfl⟩ rfl rfl ?_
      refine xcall 32 [.ref 66, .int _] [.int _] hH ⟨u290, _, rfl⟩ rfl rfl rfl rfl rfl (k_qpE hH hT hL hQ (q := t) (by omega) hwt (fun z29 h29 => ⟨_, rfl, ?_⟩))
      refine xild 33 ⟨u290, _, rfl⟩ rfl rfl ?_
      refine xshr 34 ⟨u290, _, rfl⟩ rfl ?_
      refine xcst 35 (1) ⟨u290, _, rfl⟩ rfl (by decide) (fun z34 h34 => ?_)
      refine xand 36 ⟨u290, _, rfl⟩ rfl ?_
      have eb := i_bit h29 ql ha hp15 h34
      have eb : (((z29 >>> (a &&& 31)) &&& z34).toInt = 1 ∧ (qU T (cQ2 T t)).testBit p = true) ∨ (((z29 >>> (a &&& 31)) &&& z34).toInt = 0 ∧ ¬ (qU T (cQ2 T t)).testBit p = true) := by
        by_cases q : (qU T (cQ2 T t)).testBit p = true
        · left; rw [eb, if_pos q]; exact ⟨rfl, q⟩
        · right; rw [eb, if_neg q]; exact ⟨rfl, q⟩
      refine xadd 37 _ ⟨u290, _, rfl⟩ rfl rfl (by rcases eb with e | e <;> omega) (by rcases eb with e | e <;> omega) (fun z36 h36 => ?_)
      refine xist 38 ⟨u290, _, rfl⟩ rfl rfl ?_
      refine xinc 41 (1) ⟨u290, _, rfl⟩ rfl rfl rfl (by decide) (by omega) (by omega) (fun z38 h38 => ?_)
      refine xgoto ⟨u290, _, rfl⟩ ?_
      rcases eb with ⟨e1, e2⟩ | ⟨e1, e2⟩
      · rw [iv_t e2] at k3
        exact ih (t + 1) _ _ (by omega) (by omega) (by omega)
      · rw [iv_f e2] at k3
        exact ih (t + 1) _ _ (by omega) (by omega) (by omega)
theorem k_290E {d V n : Nat} {h : Nat → sR} {sv : Option sR} {T : sT} {ty : Nat → Int} {hp : amH} {R : xQ} {a : Int32} (hH : bHk 84 bTT hp) (hP : P0 hp) (hS : rfS hp (V, T, ty) n h sv)
    (hR : ∀ (z : Int32) hp1, bHk 84 bTT hp1 → P0 hp1 → bFr wM hp hp1 → rN hp1 66 7 = gPt V a.toInt → ((¬ gPt V a.toInt = 0 ∧ rfS hp1 (V, T, ty) n h sv) ∨ (gPt V a.toInt = 0 ∧ rfS hp1 (V, T, ty) n h sv ∧ z.toInt = ((qaC T a.toInt.toNat (nQ T) : Nat) : Int))) → R (.inl (some (.int z))) hp1) : xK (d + 6) 290 [.ref 66, .int a] hp R := by
  have hB : rdOk hp V T := rowOk_rd hS.1
  have b0 : rN hp 67 0 = (V : Int) := hB.1
  have hT0 : sOk V T := hB.2.1
  have h15 : V ≤ 15 := hT0.2.1
  have l35 : (trL T 225).length ≤ 35 := trL_35 hT0 225
  refine xin (M := am_m290) rfl rfl rfl ?_
  refine xald 1 ⟨u290, _, rfl⟩ rfl rfl ?_
  refine xild 2 ⟨u290, _, rfl⟩ rfl rfl ?_
  refine xcall 5 [.ref 66, .int _] [] hH ⟨u290, _, rfl⟩ rfl rfl rfl rfl rfl (k_gp1 hH b0 h15 (fun z2 hp2 hH2 F2 t2 o2 => ⟨_, rfl, ?_⟩))
  have S2 := rfS_W hS F2 (fun _ => rfl) rfl rfl (fun _ => rfl) (fun _ => rfl)
  have P2 : P0 hp2 := P0_W (W := [(66, 7)]) (by decide) F2 hP
  refine xif_eq 8 ⟨u290, _, rfl⟩ rfl (fun c5 => ?_) (fun c5 => ?_)
  · have g2 : gPt V a.toInt = 0 := by omega
    have k2 := gPt_0.mp g2
    have B2 : rdOk hp2 V T := rowOk_rd S2.1
    refine xald 11 ⟨u290, _, rfl⟩ rfl rfl ?_
    refine xcall 14 [.ref 66] [] hH2 ⟨u290, _, rfl⟩ rfl rfl rfl rfl rfl (k_lqs hH2 B2 (q105 hT0) (fun hp11 hH11 F11 B11 L11 Q11 => ⟨_, rfl, ?_⟩))
    have S11 := rfS_W S2 F11 (fun _ => rfl) rfl rfl (fun _ => rfl) (fun _ => rfl)
    have P11 : P0 hp11 := P0_W (W := wLQE) (by decide) F11 P2
    refine xcst 15 (0) ⟨u290, _, rfl⟩ rfl (by decide) (fun z14 h14 => ?_)
    refine xist 16 ⟨u290, _, rfl⟩ rfl rfl ?_
    refine xcst 17 (0) ⟨u290, _, rfl⟩ rfl (by decide) (fun z16 h16 => ?_)
    refine xist 18 ⟨u290, _, rfl⟩ rfl rfl ?_
    exact l290E hT0 hH11 L11 Q11 (p := a.toInt.toNat) (by omega) (by omega) (fun z h => hR z hp11 hH11 P11 ((bFr_sub F2 (by decide)).trans (bFr_sub F11 (by decide))) (by rw [show rN hp11 66 7 = rN hp2 66 7 from r_fr F11 rfl]; exact t2) (Or.inr ⟨g2, S11, h⟩)) (nQ T) 0 _ _ h16 (by omega) h14
  · refine xcst 9 (0) ⟨u290, _, rfl⟩ rfl (by decide) (fun z8 h8 => ?_)
    exact xret ⟨u290, _, rfl⟩ rfl (hR _ hp2 hH2 P2 (bFr_sub F2 (by decide)) t2 (Or.inl ⟨by omega, S2⟩))
theorem h360E {d : Nat} {hp : amH} {R : cQ} {x1 : Int32} {V n : Nat} {h : Nat → sR} {sv : Option sR} {T : sT} {ty : Nat → Int} (hI : lawI hp) (c : clS hp (V, T, ty) n h sv) (r : rfS hp (V, T, ty) n h sv)
    (hR : ∀ (z : Int32) hp1 mc ms, lawI hp1 → rfS hp1 (V, T, ty) n h sv → z.toInt = gPt V x1.toInt → ((¬ gPt V x1.toInt = 0 ∧ clS hp1 (V, T, ty) n h sv) ∨ (gPt V x1.toInt = 0 ∧ clS hp1 (V, T, ty) n h sv ∧ rJ hp1 83 0 = ((qaC T x1.toInt.toNat (nQ T) : Nat) : Int))) → mc ≤ 1 → ms ≤ 6 → R (.inl (some (.int z))) hp1 mc ms) : cK (d + 20) 360 [.ref 0, .int x1, .ref 83] hp R := by
  refine cin (M := am_m360) rfl rfl rfl ?_
  refine cald 1 ⟨u360J, _, rfl⟩ rfl rfl ?_
  refine ccst 2 (0) ⟨u360J, _, rfl⟩ rfl (by decide) (fun z1 h1 => ?_)
  refine cald 3 ⟨u360J, _, rfl⟩ rfl rfl ?_
  refine cild 4 ⟨u360J, _, rfl⟩ rfl rfl ?_
  refine ccall (kd := 0) (t := 1) [.ref 0, .int _] [.int _, .ref 83] hI.1 ⟨u360J, _, rfl⟩ (Or.inl ⟨_, rfl, rfl, by decide, by decide⟩) rfl rfl rfl ⟨rfl, rfl, rfl⟩ rfl (recv0 hI.1 _) rfl (qKE (Φ := fun z hp1 => bHk 84 bTT hp1 ∧ cF hp hp1 ∧ gPt V x1.toInt = 0 ∧ clS hp1 (V, T, ty) n h sv ∧ z.toInt = ((qaC T x1.toInt.toNat (nQ T) : Nat) : Int)) (Ψ := fun E hp1 => lawI hp1 ∧ rfS hp1 (V, T, ty) n h sv ∧ clS hp1 (V, T, ty) n h sv ∧ ¬ gPt V x1.toInt = 0 ∧ ((gPt V x1.toInt = 1 ∧ E = 1))) (fun R g1 g2 => k_134E (d := d + 15) hI.1 c (fun E hp1 b1 b2 b3 e1 e2 => g2 E hp1 ⟨law_cl hI b1 b2, cF_rf b2 r, b3, e1, e2⟩) (fun z hp1 a1 a2 a3 a4 a5 => g1 z hp1 ⟨a1, a2, a3, a4, a5⟩)) (fun z hp1 φ => Or.inl ⟨_, rfl, ?_⟩) (fun E hp1 ψ => Or.inr ?_))
  · refine ci2lE 8 ⟨u360J, _, rfl⟩ rfl (fun w hw => ?_)
    refine clastE 9 φ.1 ⟨u360J, _, rfl⟩ rfl h1 (fun hp2 hH2 F2 J2 => ?_)
    refine cgoto ⟨u360J, _, rfl⟩ ?_
    refine ccst 16 (0) ⟨u360J, _, rfl⟩ rfl (by decide) (fun z9 h9 => ?_)
    exact cret ⟨u360J, _, rfl⟩ (Or.inl rfl) (hR _ _ _ _ (lawI_83 (law_cl hI φ.1 φ.2.1) hH2 F2) (rf_83 F2 (cF_rf φ.2.1 r)) (by rw [φ.2.2.1]; exact h9) (Or.inr ⟨φ.2.2.1, cl_83 F2 φ.2.2.2.1, by rw [J2, hw]; exact φ.2.2.2.2⟩) (by decide) (by decide))
  · obtain ⟨ψ0, ψr, ψc, ψ1, ψ2⟩ := ψ
    obtain ⟨ce, rfl⟩ := ψ2
    refine ⟨1, 12, 3, 13, rfl, rfl, rfl, rfl, ?_⟩
    refine ccst 14 (1) ⟨u360J, _, rfl⟩ rfl (by decide) (fun z9 h9 => ?_)
    exact cret ⟨u360J, _, rfl⟩ (Or.inl rfl) (hR _ _ _ _ ψ0 ψr (by rw [ce]; exact h9) (Or.inl ⟨ψ1, ψc⟩) (by decide) (by decide))
