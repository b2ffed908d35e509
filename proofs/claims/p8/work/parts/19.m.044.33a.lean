/-! ===== the reference: numbers, adding, removing ===== -/
theorem l212n {d : Nat} {hp : amH} {R : xQ} {V m : Nat} {T : sT} {x : Int32} (hH : bHk 84 bTT hp) (hB : rdOk hp V T) (hL : rlN hp T 225) (hx : x.toInt = (m : Int)) (hR : ∀ z : Int32, z.toInt = nmT T m → R (.inl (some (.int z))) hp) :
    ∀ (f k : Nat) (w : Int32), w.toInt = (k : Int) → k + f = (trL T 225).length → nmF T m k f = nmT T m → xV d am_m212 2 [some (.ref 66), some (.int x), some (.int w)] [] hp R := by
  have l35 := trL_35 hB.2.1 225
  have L1 := hL.1
  intro f
  induction f with
  | zero =>
    intro k w hw hk hN
    refine xild 3 ⟨u212, _, rfl⟩ rfl rfl ?_
    refine xald 4 ⟨u212, _, rfl⟩ rfl rfl ?_
    refine xgetI 7 hH ⟨u212, _, rfl⟩ rfl rfl (fun z4 h4 => ?_)
    refine xcmp_ge 10 ⟨u212, _, rfl⟩ rfl (fun c7 => ?_) (fun c7 => ?_)
    · refine xcst 29 (-1) ⟨u212, _, rfl⟩ rfl (by decide) (fun z28 h28 => ?_)
      exact xret ⟨u212, _, rfl⟩ rfl (hR _ (by rw [← hN]; exact h28))
    · omega
  | succ f ih =>
    intro k w hw hk hN
    have L2 := (hL.2 k (by omega)).2.2.2
    refine xild 3 ⟨u212, _, rfl⟩ rfl rfl ?_
    refine xald 4 ⟨u212, _, rfl⟩ rfl rfl ?_
    refine xgetI 7 hH ⟨u212, _, rfl⟩ rfl rfl (fun z4 h4 => ?_)
    refine xcmp_ge 10 ⟨u212, _, rfl⟩ rfl (fun c7 => ?_) (fun c7 => ?_)
    · omega
    · refine xald 11 ⟨u212, _, rfl⟩ rfl rfl ?_
      refine xgetR 14 75 hH ⟨u212, _, rfl⟩ rfl rfl ?_
      refine xild 15 ⟨u212, _, rfl⟩ rfl rfl ?_
      refine xiald 16 (w).toInt.toNat hH ⟨u212, _, rfl⟩ rfl (by decide) rfl (by omega) (by omega) (fun z15 h15 => ?_)
      have e15 : z15.toInt = ((mk3 T ((trL T 225).getD k 0) : Nat) : Int) := by rw [h15, show w.toInt.toNat = k by omega]; exact L2
      refine xild 17 ⟨u212, _, rfl⟩ rfl rfl ?_
      refine xcmp_ne 20 ⟨u212, _, rfl⟩ rfl (fun c17 => ?_) (fun c17 => ?_)
      · refine xinc 25 (1) ⟨u212, _, rfl⟩ rfl rfl rfl (by decide) (by omega) (by omega) (fun z22 h22 => ?_)
        refine xgoto ⟨u212, _, rfl⟩ ?_
        refine ih (k + 1) _ (by omega) (by omega) ?_
        rw [← hN]
        show _ = (if mk3 T ((trL T 225).getD k 0) = m then (k : Int) else nmF T m (k + 1) f)
        rw [if_neg (by omega)]
      · refine xild 21 ⟨u212, _, rfl⟩ rfl rfl ?_
        exact xret ⟨u212, _, rfl⟩ rfl (hR _ (by
          rw [← hN]
          show _ = (if mk3 T ((trL T 225).getD k 0) = m then (k : Int) else nmF T m (k + 1) f)
          rw [if_pos (by omega)]
          exact hw))
theorem k_rnof {d : Nat} {hp : amH} {R : xQ} {V m : Nat} {T : sT} {x : Int32} (hH : bHk 84 bTT hp) (hB : rdOk hp V T) (hL : rlN hp T 225) (hx : x.toInt = (m : Int)) (hR : ∀ z : Int32, z.toInt = nmT T m → R (.inl (some (.int z))) hp) : xK d 212 [.ref 66, .int x] hp R := by
  refine xin (M := am_m212) rfl rfl rfl ?_
  refine xcst 1 (0) ⟨u212, _, rfl⟩ rfl (by decide) (fun z0 h0 => ?_)
  refine xist 2 ⟨u212, _, rfl⟩ rfl rfl ?_
  exact l212n hH hB hL hx hR (trL T 225).length 0 _ (by omega) (by omega) rfl
theorem rlN_fr {hp hp1 : amH} {T : sT} {n : Nat} (h : rlN hp T n) (e : rN hp1 66 12 = rN hp 66 12) (e1 : ∀ i, rN hp1 72 i = rN hp 72 i) (e2 : ∀ i, rN hp1 73 i = rN hp 73 i) (e3 : ∀ i, rN hp1 74 i = rN hp 74 i) (e4 : ∀ i, rN hp1 75 i = rN hp 75 i) : rlN hp1 T n :=
  ⟨e.trans h.1, fun t ht => by rw [e1, e2, e3, e4]; exact h.2 t ht⟩
theorem k_gpt {d V : Nat} {T : sT} {hp : amH} {R : xQ} {t : Int32} (hH : bHk 84 bTT hp) (hB : rdOk hp V T)
    (hR : ∀ (z : Int32) hp1, bHk 84 bTT hp1 → bFr ((66, 7) :: bLT) hp hp1 → rdOk hp1 V T → rlN hp1 T 225 → rN hp1 66 7 = gTri (trL T 225).length t.toInt → ((gTri (trL T 225).length t.toInt = 0 ∧ z.toInt = 0) ∨ (gTri (trL T 225).length t.toInt = 1 ∧ z.toInt = 1)) → R (.inl (some (.int z))) hp1) : xK (d + 2) 257 [.ref 66, .int t] hp R := by
  refine xin (M := am_m257) rfl rfl rfl ?_
  refine xald 1 ⟨u257, _, rfl⟩ rfl rfl ?_
  refine xcst 2 (0) ⟨u257, _, rfl⟩ rfl (by decide) (fun z1 h1 => ?_)
  refine xputI 5 hH ⟨u257, _, rfl⟩ rfl rfl ⟨rfl, rfl⟩ (by omega) (by omega) (fun hp2 hH2 U2 => ?_)
  have s2 := U2.1
  refine xald 6 ⟨u257, _, rfl⟩ rfl rfl ?_
  refine xcall 9 [.ref 66] [] hH2 ⟨u257, _, rfl⟩ rfl rfl rfl rfl rfl (k_rlst hH2 (rdOk_fr hB (fun i => rU_ne U2 (by omega))) (fun hp6 hH6 F6 B6 L6 => ⟨_, rfl, ?_⟩))
  have L1 := L6.1
  have l35 := trL_35 hB.2.1 225
  have s6 : rN hp6 66 7 = 0 := (r_fr F6 rfl).trans (U2.1.trans h1)
  have F26 : bFr ((66, 7) :: bLT) hp hp6 := (rU_fr U2 (by decide)).trans (bFr_sub F6 (by decide))
  refine xald 10 ⟨u257, _, rfl⟩ rfl rfl ?_
  refine xild 11 ⟨u257, _, rfl⟩ rfl rfl ?_
  refine xcst 12 (0) ⟨u257, _, rfl⟩ rfl (by decide) (fun z11 h11 => ?_)
  refine xald 13 ⟨u257, _, rfl⟩ rfl rfl ?_
  refine xgetI 16 hH6 ⟨u257, _, rfl⟩ rfl rfl (fun z13 h13 => ?_)
  refine xcst 17 (1) ⟨u257, _, rfl⟩ rfl (by decide) (fun z16 h16 => ?_)
  refine xsub 18 _ ⟨u257, _, rfl⟩ rfl rfl (by omega) (by omega) (fun z17 h17 => ?_)
  refine xcallS 21 [.int _, .int _, .int _] [.ref 66] hH6 ⟨u257, _, rfl⟩ rfl rfl rfl rfl rfl (k_inr (fun z18 h18 => ⟨_, rfl, ?_⟩))
  refine xif_ne 24 ⟨u257, _, rfl⟩ rfl (fun c21 => ?_) (fun c21 => ?_)
  · refine xcst 29 (0) ⟨u257, _, rfl⟩ rfl (by decide) (fun z28 h28 => ?_)
    refine xcst 30 (1) ⟨u257, _, rfl⟩ rfl (by decide) (fun z29 h29 => ?_)
    refine xcall 33 [.ref 66, .int _, .int _] [] hH6 ⟨u257, _, rfl⟩ rfl rfl rfl rfl rfl (k_failsE hH6 (by omega) (fun hp30 hH30 V30 => ⟨_, rfl, ?_⟩))
    rcases V30 with ⟨a, e⟩ | ⟨a, U⟩
    · first
      | (exfalso; omega)
      | (subst e
         have g : gTri (trL T 225).length t.toInt = 0 := gTri_0.mpr (by omega)
         exact xretB ⟨u257, _, rfl⟩ rfl (by omega) (hR _ _ hH30 F26 B6 L6 (by rw [g]; exact s6) (Or.inl ⟨g, a⟩)))
    · first
      | (exfalso; omega)
      | (have g : gTri (trL T 225).length t.toInt = 1 := by unfold gTri; rw [if_neg (by omega)]
         exact xretB ⟨u257, _, rfl⟩ rfl (by omega) (hR _ _ hH30 (F26.trans (rU_fr U (by decide))) (rdOk_fr B6 (fun i => rU_ne U (by omega))) (rlN_fr L6 (rU_ne U (by omega)) (fun i => rU_ne U (by omega)) (fun i => rU_ne U (by omega)) (fun i => rU_ne U (by omega)) (fun i => rU_ne U (by omega))) (by rw [g, U.1]; exact h29) (Or.inr ⟨g, a⟩)))
  · refine xcst 25 (1) ⟨u257, _, rfl⟩ rfl (by decide) (fun z24 h24 => ?_)
    refine xgoto ⟨u257, _, rfl⟩ ?_
    refine xcst 30 (1) ⟨u257, _, rfl⟩ rfl (by decide) (fun z29 h29 => ?_)
    refine xcall 33 [.ref 66, .int _, .int _] [] hH6 ⟨u257, _, rfl⟩ rfl rfl rfl rfl rfl (k_failsE hH6 (by omega) (fun hp30 hH30 V30 => ⟨_, rfl, ?_⟩))
    rcases V30 with ⟨a, e⟩ | ⟨a, U⟩
    · first
      | (exfalso; omega)
      | (subst e
         have g : gTri (trL T 225).length t.toInt = 0 := gTri_0.mpr (by omega)
         exact xretB ⟨u257, _, rfl⟩ rfl (by omega) (hR _ _ hH30 F26 B6 L6 (by rw [g]; exact s6) (Or.inl ⟨g, a⟩)))
    · first
      | (exfalso; omega)
      | (have g : gTri (trL T 225).length t.toInt = 1 := by unfold gTri; rw [if_neg (by omega)]
         exact xretB ⟨u257, _, rfl⟩ rfl (by omega) (hR _ _ hH30 (F26.trans (rU_fr U (by decide))) (rdOk_fr B6 (fun i => rU_ne U (by omega))) (rlN_fr L6 (rU_ne U (by omega)) (fun i => rU_ne U (by omega)) (fun i => rU_ne U (by omega)) (fun i => rU_ne U (by omega)) (fun i => rU_ne U (by omega))) (by rw [g, U.1]; exact h29) (Or.inr ⟨g, a⟩)))
def cvT (T : sT) (x y : Nat) : Int := if T x y = -1 then 0 else 1
/-- why a triple can't come: 1 it is there, else 1 and the covered pairs; 0 -/
def rsn (T : sT) (x y z : Nat) : Int := if T x y = (z : Int) then 1 else if cvT T x y + cvT T y z + cvT T x z = 0 then 0 else 1 + (cvT T x y + cvT T y z + cvT T x z)
theorem cvT_01 (T : sT) (x y : Nat) : (cvT T x y = 0 ∧ T x y = -1) ∨ (cvT T x y = 1 ∧ ¬ T x y = -1) := by
  unfold cvT
  by_cases h : T x y = -1
  · rw [if_pos h]; exact Or.inl ⟨rfl, h⟩
  · rw [if_neg h]; exact Or.inr ⟨rfl, h⟩
theorem rsn_0 {T : sT} {x y z : Nat} : rsn T x y z = 0 ↔ sFree T x y z := by
  have a := cvT_01 T x y
  have b := cvT_01 T y z
  have c := cvT_01 T x z
  unfold rsn sFree
  split
  · omega
  · split <;> omega
theorem cv_T {hp : amH} {V : Nat} {T : sT} (hB : rdOk hp V T) {x y : Nat} (hx : x < 15) (hy : y < 15) : cv hp x y = cvT T x y := by
  unfold cv cvT
  rw [hB.2.2.1 x y hx hy]
theorem k_rrea {d : Nat} {hp : amH} {R : xQ} {V x y z : Nat} {T : sT} {a b c : Int32} (hH : bHk 84 bTT hp) (hB : rdOk hp V T) (ha : a.toInt = (x : Int)) (hb : b.toInt = (y : Int)) (hc : c.toInt = (z : Int)) (hx : x < V) (hy : y < V) (hz : z < V) (hR : ∀ r : Int32, r.toInt = rsn T x y z → R (.inl (some (.int r))) hp) : xK (d + 3) 269 [.ref 66, .int a, .int b, .int c] hp R := by
  have hV := hB.2.1.2.1
  have a1 := cvT_01 T x y
  have a2 := cvT_01 T y z
  have a3 := cvT_01 T x z
  refine xin (M := am_m269) rfl rfl rfl ?_
  refine xald 1 ⟨u269, _, rfl⟩ rfl rfl ?_
  refine xild 2 ⟨u269, _, rfl⟩ rfl rfl ?_
  refine xild 3 ⟨u269, _, rfl⟩ rfl rfl ?_
  refine xcall 6 [.ref 66, .int _, .int _] [] hH ⟨u269, _, rfl⟩ rfl rfl rfl rfl rfl (k_third hH (by omega) (by omega) (by omega) (by omega) (fun z3 h3 => ⟨_, rfl, ?_⟩))
  rw [show a.toInt.toNat = x by omega, show b.toInt.toNat = y by omega, hB.2.2.1 x y (by omega) (by omega)] at h3
  refine xild 7 ⟨u269, _, rfl⟩ rfl rfl ?_
  refine xcmp_ne 10 ⟨u269, _, rfl⟩ rfl (fun c7 => ?_) (fun c7 => ?_)
  · refine xald 13 ⟨u269, _, rfl⟩ rfl rfl ?_
    refine xild 14 ⟨u269, _, rfl⟩ rfl rfl ?_
    refine xild 15 ⟨u269, _, rfl⟩ rfl rfl ?_
    refine xild 16 ⟨u269, _, rfl⟩ rfl rfl ?_
    refine xcall 19 [.ref 66, .int _, .int _, .int _] [] hH ⟨u269, _, rfl⟩ rfl rfl rfl rfl rfl (k_covin hH (by omega) (by omega) (by omega) (by omega) (by omega) (by omega) (fun z16 h16 => ⟨_, rfl, ?_⟩))
    rw [show a.toInt.toNat = x by omega, show b.toInt.toNat = y by omega, show c.toInt.toNat = z by omega, cv_T hB (by omega) (by omega), cv_T hB (by omega) (by omega), cv_T hB (by omega) (by omega)] at h16
    refine xist2 21 ⟨u269, _, rfl⟩ rfl rfl ?_
    refine xild2 23 ⟨u269, _, rfl⟩ rfl rfl ?_
    refine xif_ne 26 ⟨u269, _, rfl⟩ rfl (fun c23 => ?_) (fun c23 => ?_)
    · refine xcst 31 (1) ⟨u269, _, rfl⟩ rfl (by decide) (fun z30 h30 => ?_)
      refine xild2 33 ⟨u269, _, rfl⟩ rfl rfl ?_
      refine xadd 34 _ ⟨u269, _, rfl⟩ rfl rfl (by omega) (by omega) (fun z33 h33 => ?_)
      exact xret ⟨u269, _, rfl⟩ rfl (hR _ (by unfold rsn; rw [if_neg (by omega), if_neg (by omega)]; omega))
    · refine xcst 27 (0) ⟨u269, _, rfl⟩ rfl (by decide) (fun z26 h26 => ?_)
      refine xgoto ⟨u269, _, rfl⟩ ?_
      exact xret ⟨u269, _, rfl⟩ rfl (hR _ (by unfold rsn; rw [if_neg (by omega), if_pos (by omega)]; exact h26))
  · refine xcst 11 (1) ⟨u269, _, rfl⟩ rfl (by decide) (fun z10 h10 => ?_)
    exact xret ⟨u269, _, rfl⟩ rfl (hR _ (by unfold rsn; rw [if_pos (by omega)]; exact h10))
