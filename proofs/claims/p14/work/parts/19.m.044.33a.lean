/-! ##### 19.m.044.33a ##### -/
section
/-! ===== the reference: numbers, adding, removing ===== -/
theorem l212n {d : Nat} {hp : amH} {R : xQ} {V m : Nat} {T : sT} {x : Int32} (hH : bHk 84 bTT hp) (hB : rdOk hp V T) (hL : rlN hp T 225) (hx : x.toInt = (m : Int)) (hR : ∀ z : Int32, z.toInt = nmT T m → R (.inl (some (.int z))) hp) :
    ∀ (f k : Nat) (w : Int32), w.toInt = (k : Int) → k + f = (trL T 225).length → nmF T m k f = nmT T m → xV d am_m212 2 [some (.ref 66), some (.int x), some (.int w)] [] hp R := by
  have l35 := trL_35 hB.2.1 225
  have L1 := hL.1
  intro f
  induction f with
  | zero =>
    intro k w hw hk hN
    refine xild 3 ⟨u212, _, rfl⟩ rfl rfl ?_
    refine xald 4 ⟨u212, _, rfl⟩ rfl rfl ?_
    refine xgetI 7 hH ⟨u212, _, rfl⟩ rfl rfl (fun z4 h4 => ?_)
    refine xcmp_ge 10 ⟨u212, _, rfl⟩ rfl (fun c7 => ?_) (fun c7 => ?_)
    · refine xcst 29 (-1) ⟨u212, _, rfl⟩ rfl (by decide) (fun z28 h28 => ?_)
      exact xret ⟨u212, _, rfl⟩ rfl (hR _ (by rw [← hN]; exact h28))
    · omega
  | succ f ih =>
    intro k w hw hk hN
    have L2 := (hL.2 k (by omega)).2.2.2
    refine xild 3 ⟨u212, _, rfl⟩ rfl rfl ?_
    refine xald 4 ⟨u212, _, rfl⟩ rfl rfl ?_
    refine xgetI 7 hH ⟨u212, _, rfl⟩ rfl rfl (fun z4 h4 => ?_)
    refine xcmp_ge 10 ⟨u212, _, rfl⟩ rfl (fun c7 => ?_) (fun c7 => ?_)
    · omega
    · refine xald 11 ⟨u212, _, rfl⟩ rfl rfl ?_
      refine xgetR 14 75 hH ⟨u212, _, rfl⟩ rfl rfl ?_
      refine xild 15 ⟨u212, _, rfl⟩ rfl rfl ?_
      refine xiald 16 (w).toInt.toNat hH ⟨u212, _, rfl⟩ rfl (by decide) rfl (by omega) (by omega) (fun z15 h15 => ?_)
      have e15 : z15.toInt = ((mk3 T ((trL T 225).getD k 0) : Nat) : Int) := by rw [h15, show w.toInt.toNat = k by omega]; exact L2
      refine xild 17 ⟨u212, _, rfl⟩ rfl rfl ?_
      refine xcmp_ne 20 ⟨u212, _, rfl⟩ rfl (fun c17 => ?_) (fun c17 => ?_)
      · refine xinc 25 (1) ⟨u212, _, rfl⟩ rfl rfl rfl (by decide) (by omega) (by omega) (fun z22 h22 => ?_)
        refine xgoto ⟨u212, _, rfl⟩ ?_
        refine ih (k + 1) _ (by omega) (by omega) ?_
        rw [← hN]
        show _ = (if mk3 T ((trL T 225).getD k 0) = m then (k : Int) else nmF T m (k + 1) f)
        rw [if_neg (by omega)]
      · refine xild 21 ⟨u212, _, rfl⟩ rfl rfl ?_
        exact xret ⟨u212, _, rfl⟩ rfl (hR _ (by
          rw [← hN]
          show _ = (if mk3 T ((trL T 225).getD k 0) = m then (k : Int) else nmF T m (k + 1) f)
          rw [if_pos (by omega)]
          exact hw))
theorem k_rnof {d : Nat} {hp : amH} {R : xQ} {V m : Nat} {T : sT} {x : Int32} (hH : bHk 84 bTT hp) (hB : rdOk hp V T) (hL : rlN hp T 225) (hx : x.toInt = (m : Int)) (hR : ∀ z : Int32, z.toInt = nmT T m → R (.inl (some (.int z))) hp) : xK d 212 [.ref 66, .int x] hp R := by
  refine xin (M := am_m212) rfl rfl rfl ?_
  refine xcst 1 (0) ⟨u212, _, rfl⟩ rfl (by decide) (fun z0 h0 => ?_)
  refine xist 2 ⟨u212, _, rfl⟩ rfl rfl ?_
  exact l212n hH hB hL hx hR (trL T 225).length 0 _ (by omega) (by omega) rfl
theorem rlN_fr {hp hp1 : amH} {T : sT} {n : Nat} (h : rlN hp T n) (e : rN hp1 66 12 = rN hp 66 12) (e1 : ∀ i, rN hp1 72 i = rN hp 72 i) (e2 : ∀ i, rN hp1 73 i = rN hp 73 i) (e3 : ∀ i, rN hp1 74 i = rN hp 74 i) (e4 : ∀ i, rN hp1 75 i = rN hp 75 i) : rlN hp1 T n :=
  ⟨e.trans h.1, fun t ht => by rw [e1, e2, e3, e4]; exact h.2 t ht⟩
theorem k_gpt {d V : Nat} {T : sT} {hp : amH} {R : xQ} {t : Int32} (hH : bHk 84 bTT hp) (hB : rdOk hp V T)
    (hR : ∀ (z : Int32) hp1, bHk 84 bTT hp1 → bFr ((66, 7) :: bLT) hp hp1 → rdOk hp1 V T → rlN hp1 T 225 → rN hp1 66 7 = gTri (trL T 225).length t.toInt → ((gTri (trL T 225).length t.toInt = 0 ∧ z.toInt = 0) ∨ (gTri (trL T 225).length t.toInt = 1 ∧ z.toInt = 1)) → R (.inl (some (.int z))) hp1) : xK (d + 2) 257 [.ref 66, .int t] hp R := by
  refine xin (M := am_m257) rfl rfl rfl ?_
  refine xald 1 ⟨u257, _, rfl⟩ rfl rfl ?_
  refine xcst 2 (0) ⟨u257, _, rfl⟩ rfl (by decide) (fun z1 h1 => ?_)
  refine xputI 5 hH ⟨u257, _, rfl⟩ rfl rfl ⟨rfl, rfl⟩ (by omega) (by omega) (fun hp2 hH2 U2 => ?_)
  have s2 := U2.1
  refine xald 6 ⟨u257, _, rfl⟩ rfl rfl ?_
  refine xcall 9 [.ref 66] [] hH2 ⟨u257, _, rfl⟩ rfl rfl rfl rfl rfl (k_rlst hH2 (rdOk_fr hB (fun i => rU_ne U2 (by first | decide | exact (fun z => absurd z.1 (by decide)) | omega))) (fun hp6 hH6 F6 B6 L6 => ⟨_, rfl, ?_⟩))
  have L1 := L6.1
  have l35 := trL_35 hB.2.1 225
  have s6 : rN hp6 66 7 = 0 := (r_fr F6 rfl).trans (U2.1.trans h1)
  have F26 : bFr ((66, 7) :: bLT) hp hp6 := (rU_fr U2 (by decide)).trans (bFr_sub F6 (by decide))
  refine xald 10 ⟨u257, _, rfl⟩ rfl rfl ?_
  refine xild 11 ⟨u257, _, rfl⟩ rfl rfl ?_
  refine xcst 12 (0) ⟨u257, _, rfl⟩ rfl (by decide) (fun z11 h11 => ?_)
  refine xald 13 ⟨u257, _, rfl⟩ rfl rfl ?_
  refine xgetI 16 hH6 ⟨u257, _, rfl⟩ rfl rfl (fun z13 h13 => ?_)
  refine xcst 17 (1) ⟨u257, _, rfl⟩ rfl (by decide) (fun z16 h16 => ?_)
  refine xsub 18 _ ⟨u257, _, rfl⟩ rfl rfl (by omega) (by omega) (fun z17 h17 => ?_)
  refine xcallS 21 [.int _, .int _, .int _] [.ref 66] hH6 ⟨u257, _, rfl⟩ rfl rfl rfl rfl rfl (k_inr (fun z18 h18 => ⟨_, rfl, ?_⟩))
  refine xif_ne 24 ⟨u257, _, rfl⟩ rfl (fun c21 => ?_) (fun c21 => ?_)
  · refine xcst 29 (0) ⟨u257, _, rfl⟩ rfl (by decide) (fun z28 h28 => ?_)
    refine xcst 30 (1) ⟨u257, _, rfl⟩ rfl (by decide) (fun z29 h29 => ?_)
    refine xcall 33 [.ref 66, .int _, .int _] [] hH6 ⟨u257, _, rfl⟩ rfl rfl rfl rfl rfl (k_failsE hH6 (by omega) (fun hp30 hH30 V30 => ⟨_, rfl, ?_⟩))
    rcases V30 with ⟨a, e⟩ | ⟨a, U⟩
    · first
      | (exfalso; omega)
      | (subst e
         have g : gTri (trL T 225).length t.toInt = 0 := gTri_0.mpr (by omega)
         exact xretB ⟨u257, _, rfl⟩ rfl (by omega) (hR _ _ hH30 F26 B6 L6 (by rw [g]; exact s6) (Or.inl ⟨g, a⟩)))
    · first
      | (exfalso; omega)
      | (have g : gTri (trL T 225).length t.toInt = 1 := by unfold gTri; rw [if_neg (by omega)]
         exact xretB ⟨u257, _, rfl⟩ rfl (by omega) (hR _ _ hH30 (F26.trans (rU_fr U (by decide))) (rdOk_fr B6 (fun i => rU_ne U (by first | decide | exact (fun z => absurd z.1 (by decide)) | omega))) (rlN_fr L6 (rU_ne U (by first | decide | exact (fun z => absurd z.1 (by decide)) | omega)) (fun i => rU_ne U (by first | decide | exact (fun z => absurd z.1 (by decide)) | omega)) (fun i => rU_ne U (by first | decide | exact (fun z => absurd z.1 (by decide)) | omega)) (fun i => rU_ne U (by first | decide | exact (fun z => absurd z.1 (by decide)) | omega)) (fun i => rU_ne U (by first | decide | exact (fun z => absurd z.1 (by decide)) | omega))) (by rw [g, U.1]; exact h29) (Or.inr ⟨g, a⟩)))
  · refine xcst 25 (1) ⟨u257, _, rfl⟩ rfl (by decide) (fun z24 h24 => ?_)
    refine xgoto ⟨u257, _, rfl⟩ ?_
    refine xcst 30 (1) ⟨u257, _, rfl⟩ rfl (by decide) (fun z29 h29 => ?_)
    refine xcall 33 [.ref 66, .int _, .int _] [] hH6 ⟨u257, _, rfl⟩ rfl rfl rfl rfl rfl (k_failsE hH6 (by omega) (fun hp30 hH30 V30 => ⟨_, rfl, ?_⟩))
    rcases V30 with ⟨a, e⟩ | ⟨a, U⟩
    · first
      | (exfalso; omega)
      | (subst e
         have g : gTri (trL T 225).length t.toInt = 0 := gTri_0.mpr (by omega)
         exact xretB ⟨u257, _, rfl⟩ rfl (by omega) (hR _ _ hH30 F26 B6 L6 (by rw [g]; exact s6) (Or.inl ⟨g, a⟩)))
    · first
      | (exfalso; omega)
      | (have g : gTri (trL T 225).length t.toInt = 1 := by unfold gTri; rw [if_neg (by omega)]
         exact xretB ⟨u257, _, rfl⟩ rfl (by omega) (hR _ _ hH30 (F26.trans (rU_fr U (by decide))) (rdOk_fr B6 (fun i => rU_ne U (by first | decide | exact (fun z => absurd z.1 (by decide)) | omega))) (rlN_fr L6 (rU_ne U (by first | decide | exact (fun z => absurd z.1 (by decide)) | omega)) (fun i => rU_ne U (by first | decide | exact (fun z => absurd z.1 (by decide)) | omega)) (fun i => rU_ne U (by first | decide | exact (fun z => absurd z.1 (by decide)) | omega)) (fun i => rU_ne U (by first | decide | exact (fun z => absurd z.1 (by decide)) | omega)) (fun i => rU_ne U (by first | decide | exact (fun z => absurd z.1 (by decide)) | omega))) (by rw [g, U.1]; exact h29) (Or.inr ⟨g, a⟩)))
noncomputable def cvT (T : sT) (x y : Nat) : Int := if T x y = -1 then 0 else 1
/-- why a triple can't come: 1 it is there, else 1 and the covered pairs; 0 -/
noncomputable def rsn (T : sT) (x y z : Nat) : Int := if T x y = (z : Int) then 1 else if cvT T x y + cvT T y z + cvT T x z = 0 then 0 else 1 + (cvT T x y + cvT T y z + cvT T x z)
theorem cvT_01 (T : sT) (x y : Nat) : (cvT T x y = 0 ∧ T x y = -1) ∨ (cvT T x y = 1 ∧ ¬ T x y = -1) := by
  unfold cvT
  by_cases h : T x y = -1
  · rw [if_pos h]; exact Or.inl ⟨rfl, h⟩
  · rw [if_neg h]; exact Or.inr ⟨rfl, h⟩
theorem rsn_0 {T : sT} {x y z : Nat} : rsn T x y z = 0 ↔ sFree T x y z := by
  have a := cvT_01 T x y
  have b := cvT_01 T y z
  have c := cvT_01 T x z
  unfold rsn sFree
  split
  · omega
  · split <;> omega
theorem cv_T {hp : amH} {V : Nat} {T : sT} (hB : rdOk hp V T) {x y : Nat} (hx : x < 15) (hy : y < 15) : cv hp x y = cvT T x y := by
  unfold cv cvT
  rw [hB.2.2.1 x y hx hy]
theorem k_rrea {d : Nat} {hp : amH} {R : xQ} {V x y z : Nat} {T : sT} {a b c : Int32} (hH : bHk 84 bTT hp) (hB : rdOk hp V T) (ha : a.toInt = (x : Int)) (hb : b.toInt = (y : Int)) (hc : c.toInt = (z : Int)) (hx : x < V) (hy : y < V) (hz : z < V) (hR : ∀ r : Int32, r.toInt = rsn T x y z → R (.inl (some (.int r))) hp) : xK (d + 3) 269 [.ref 66, .int a, .int b, .int c] hp R := by
  have hV := hB.2.1.2.1
  have a1 := cvT_01 T x y
  have a2 := cvT_01 T y z
  have a3 := cvT_01 T x z
  refine xin (M := am_m269) rfl rfl rfl ?_
  refine xald 1 ⟨u269, _, rfl⟩ rfl rfl ?_
  refine xild 2 ⟨u269, _, rfl⟩ rfl rfl ?_
  refine xild 3 ⟨u269, _, rfl⟩ rfl rfl ?_
  refine xcall 6 [.ref 66, .int _, .int _] [] hH ⟨u269, _, rfl⟩ rfl rfl rfl rfl rfl (k_third hH (by omega) (by omega) (by omega) (by omega) (fun z3 h3 => ⟨_, rfl, ?_⟩))
  rw [show a.toInt.toNat = x by omega, show b.toInt.toNat = y by omega, hB.2.2.1 x y (by omega) (by omega)] at h3
  refine xild 7 ⟨u269, _, rfl⟩ rfl rfl ?_
  refine xcmp_ne 10 ⟨u269, _, rfl⟩ rfl (fun c7 => ?_) (fun c7 => ?_)
  · refine xald 13 ⟨u269, _, rfl⟩ rfl rfl ?_
    refine xild 14 ⟨u269, _, rfl⟩ rfl rfl ?_
    refine xild 15 ⟨u269, _, rfl⟩ rfl rfl ?_
    refine xild 16 ⟨u269, _, rfl⟩ rfl rfl ?_
    refine xcall 19 [.ref 66, .int _, .int _, .int _] [] hH ⟨u269, _, rfl⟩ rfl rfl rfl rfl rfl (k_covin hH (by omega) (by omega) (by omega) (by omega) (by omega) (by omega) (fun z16 h16 => ⟨_, rfl, ?_⟩))
    rw [show a.toInt.toNat = x by omega, show b.toInt.toNat = y by omega, show c.toInt.toNat = z by omega, cv_T hB (by omega) (by omega), cv_T hB (by omega) (by omega), cv_T hB (by omega) (by omega)] at h16
    refine xist2 21 ⟨u269, _, rfl⟩ rfl rfl ?_
    refine xild2 23 ⟨u269, _, rfl⟩ rfl rfl ?_
    refine xif_ne 26 ⟨u269, _, rfl⟩ rfl (fun c23 => ?_) (fun c23 => ?_)
    · refine xcst 31 (1) ⟨u269, _, rfl⟩ rfl (by decide) (fun z30 h30 => ?_)
      refine xild2 33 ⟨u269, _, rfl⟩ rfl rfl ?_
      refine xadd 34 _ ⟨u269, _, rfl⟩ rfl rfl (by omega) (by omega) (fun z33 h33 => ?_)
      exact xret ⟨u269, _, rfl⟩ rfl (hR _ (by unfold rsn; rw [if_neg (by omega), if_neg (by omega)]; omega))
    · refine xcst 27 (0) ⟨u269, _, rfl⟩ rfl (by decide) (fun z26 h26 => ?_)
      refine xgoto ⟨u269, _, rfl⟩ ?_
      exact xret ⟨u269, _, rfl⟩ rfl (hR _ (by unfold rsn; rw [if_neg (by omega), if_pos (by omega)]; exact h26))
  · refine xcst 11 (1) ⟨u269, _, rfl⟩ rfl (by decide) (fun z10 h10 => ?_)
    exact xret ⟨u269, _, rfl⟩ rfl (hR _ (by unfold rsn; rw [if_pos (by omega)]; exact h10))
end
/-! ##### 19.m.045.33b ##### -/
section
/-! ===== the reference: a triple added, removed ===== -/
noncomputable def rfS (hp : amH) (q : sR) (n : Nat) (h : Nat → sR) (sv : Option sR) : Prop := rowOk (rN hp 67) q ∧ hyR hp n h sv
theorem rfS_W {W : List (Nat × Nat)} {hp hp1 : amH} {q : sR} {n : Nat} {h : Nat → sR} {sv : Option sR} (hS : rfS hp q n h sv) (F : bFr W hp hp1) (a : ∀ k, bIn W 67 k = false) (b : bIn W 66 5 = false) (c : bIn W 66 6 = false) (d : ∀ k, bIn W 70 k = false) (e : ∀ k, bIn W 71 k = false) : rfS hp1 q n h sv :=
  ⟨rowOk_eq hS.1 (fun i _ => r_fr F (a i)), hyR_fr hS.2 (r_fr F b) (r_fr F c) (fun i => r_fr F (d i)) (fun i => r_fr F (e i))⟩
/-- the system's row changed -/
theorem rfS_67 {hp hp1 : amH} {q q1 : sR} {n : Nat} {h : Nat → sR} {sv : Option sR} (hS : rfS hp q n h sv) (F : bFr [(67, 999)] hp hp1) (h1 : rowOk (rN hp1 67) q1) : rfS hp1 q1 n h sv :=
  ⟨h1, hyR_fr hS.2 (r_fr F rfl) (r_fr F rfl) (fun i => r_fr F rfl) (fun i => r_fr F rfl)⟩
theorem rfS_P {hp : amH} {q : sR} {n : Nat} {h : Nat → sR} {sv : Option sR} (hS : rfS hp q n h sv) (ha : 3 ≤ rN hp 69 0 → Vf (rN hp 69)) : P0 hp := by
  obtain ⟨h1, y1, y2, y3, y4⟩ := hS
  refine ⟨rowOk_V h1, fun z => ?_, fun k hk _ => rowOk_V (y3 k (by omega)), ha⟩
  cases sv with
  | none => have y4 : rN hp 66 6 = 0 := y4; omega
  | some q => exact rowOk_V y4.2
/-- the kept systems are one more -/
theorem k_rmS {d n : Nat} {h : Nat → sR} {sv : Option sR} {q : sR} {hp : amH} {R : xQ} (hH : bHk 84 bTT hp) (hP : P0 hp) (hS : rfS hp q n h sv) (hR : ∀ hp1, bHk 84 bTT hp1 → P0 hp1 → bFr wRem hp hp1 → rfS hp1 q (pM n + 1) (pH n h q) sv → R (.inl none) hp1) : xK (d + 1) 200 [.ref 66] hp R :=
  k_rmem hH hP hS.1 hS.2 (fun hp1 g1 g2 g3 g4 => hR hp1 g1 g2 g3 ⟨rowOk_eq hS.1 (fun i _ => r_fr g3 rfl), g4⟩)
/-- whether a triple can be added: 0, else what is thrown -/
noncomputable def aCd (V : Nat) (T : sT) (a b c : Int) : Int := if ¬ gSet V a b c = 0 then gSet V a b c else if sFree T a.toNat b.toNat c.toNat then 0 else 3
theorem aCd_1 {V : Nat} {T : sT} {a b c : Int} (h : ¬ gSet V a b c = 0) : aCd V T a b c = gSet V a b c := by unfold aCd; rw [if_pos h]
theorem aCd_2 {V : Nat} {T : sT} {a b c : Int} (h : gSet V a b c = 0) (h2 : sFree T a.toNat b.toNat c.toNat) : aCd V T a b c = 0 := by unfold aCd; rw [if_neg (fun z => z h), if_pos h2]
theorem aCd_3 {V : Nat} {T : sT} {a b c : Int} (h : gSet V a b c = 0) (h2 : ¬ sFree T a.toNat b.toNat c.toNat) : aCd V T a b c = 3 := by unfold aCd; rw [if_neg (fun z => z h), if_neg h2]
theorem k_272E {d V n : Nat} {h : Nat → sR} {sv : Option sR} {T : sT} {ty : Nat → Int} {hp : amH} {R : xQ} {a b c : Int32} (hH : bHk 84 bTT hp) (hP : P0 hp) (hS : rfS hp (V, T, ty) n h sv)
    (hR : ∀ (z : Int32) hp1, bHk 84 bTT hp1 → P0 hp1 → bFr wM hp hp1 → rN hp1 66 7 = aCd V T a.toInt b.toInt c.toInt → ((¬ aCd V T a.toInt b.toInt c.toInt = 0 ∧ rfS hp1 (V, T, ty) n h sv) ∨ (aCd V T a.toInt b.toInt c.toInt = 0 ∧ rfS hp1 (V, sPut T a.toInt.toNat b.toInt.toNat c.toInt.toNat, ty) (pM n + 1) (pH n h (V, T, ty)) sv ∧ z.toInt = nmT (sPut T a.toInt.toNat b.toInt.toNat c.toInt.toNat) (m3 a.toInt.toNat b.toInt.toNat c.toInt.toNat))) → R (.inl (some (.int z))) hp1) : xK (d + 4) 272 [.ref 66, .int a, .int b, .int c] hp R := by
  have hV : V ≤ 15 := hS.1.2.1.2.1
  have hV0 : rN hp 67 0 = (V : Int) := hS.1.1
  refine xin (M := am_m272) rfl rfl rfl ?_
  refine xald 1 ⟨u272, _, rfl⟩ rfl rfl ?_
  refine xild 2 ⟨u272, _, rfl⟩ rfl rfl ?_
  refine xild 3 ⟨u272, _, rfl⟩ rfl rfl ?_
  refine xild 4 ⟨u272, _, rfl⟩ rfl rfl ?_
  refine xcall 7 [.ref 66, .int _, .int _, .int _] [] hH ⟨u272, _, rfl⟩ rfl rfl rfl rfl rfl (k_gp3 hH hV0 hV (fun z4 hp4 hH4 F4 t4 o4 => ⟨_, rfl, ?_⟩))
  have S4 := rfS_W hS F4 (fun _ => rfl) rfl rfl (fun _ => rfl) (fun _ => rfl)
  have P4 : P0 hp4 := P0_W (W := [(66, 7)]) (by decide) F4 hP
  refine xif_ne 10 ⟨u272, _, rfl⟩ rfl (fun c7 => ?_) (fun c7 => ?_)
  · refine xcst 34 (0) ⟨u272, _, rfl⟩ rfl (by decide) (fun z33 h33 => ?_)
    exact xret ⟨u272, _, rfl⟩ rfl (hR _ hp4 hH4 P4 (bFr_sub F4 (by decide)) (by rw [t4, aCd_1 (by omega)]) (Or.inl ⟨by rw [aCd_1 (by omega)]; omega, S4⟩))
  · have g4 : gSet V a.toInt b.toInt c.toInt = 0 := by omega
    have k4 := gSet_0.mp g4
    refine xald 11 ⟨u272, _, rfl⟩ rfl rfl ?_
    refine xald 12 ⟨u272, _, rfl⟩ rfl rfl ?_
    refine xild 13 ⟨u272, _, rfl⟩ rfl rfl ?_
    refine xild 14 ⟨u272, _, rfl⟩ rfl rfl ?_
    refine xild 15 ⟨u272, _, rfl⟩ rfl rfl ?_
    refine xcall 18 [.ref 66, .int _, .int _, .int _] [.ref 66] hH4 ⟨u272, _, rfl⟩ rfl rfl rfl rfl rfl (k_rrea hH4 (V := V) (T := T) (rowOk_rd S4.1) (x := a.toInt.toNat) (y := b.toInt.toNat) (z := c.toInt.toNat) (by omega) (by omega) (by omega) (by show _ < V; omega) (by show _ < V; omega) (by show _ < V; omega) (fun z15 h15 => ⟨_, rfl, ?_⟩))
    refine xif_eq 21 ⟨u272, _, rfl⟩ rfl (fun c18 => ?_) (fun c18 => ?_)
    · refine xcst 26 (0) ⟨u272, _, rfl⟩ rfl (by decide) (fun z25 h25 => ?_)
      refine xcst 27 (3) ⟨u272, _, rfl⟩ rfl (by decide) (fun z26 h26 => ?_)
      refine xcall 30 [.ref 66, .int _, .int _] [] hH4 ⟨u272, _, rfl⟩ rfl rfl rfl rfl rfl (k_failsE hH4 (by omega) (fun hp27 hH27 V27 => ⟨_, rfl, ?_⟩))
      refine xif_eq 33 ⟨u272, _, rfl⟩ rfl (fun c30 => ?_) (fun c30 => ?_)
      · have hpe : hp4 = hp27 := by
          rcases V27 with ⟨q1, e⟩ | ⟨q1, -⟩
          · exact e.symm
          · omega
        subst hpe
        have fr : sFree T a.toInt.toNat b.toInt.toNat c.toInt.toNat := rsn_0.mp (by omega)
        have cod : aCd V T a.toInt b.toInt c.toInt = 0 := aCd_2 g4 fr
        refine xald 36 ⟨u272, _, rfl⟩ rfl rfl ?_
        refine xcall 39 [.ref 66] [] hH27 ⟨u272, _, rfl⟩ rfl rfl rfl rfl rfl (k_rmS hH27 P4 S4 (fun hp36 hH36 P36 F36 S36 => ⟨_, rfl, ?_⟩))
        refine xald 40 ⟨u272, _, rfl⟩ rfl rfl ?_
        refine xild 41 ⟨u272, _, rfl⟩ rfl rfl ?_
        refine xild 42 ⟨u272, _, rfl⟩ rfl rfl ?_
        refine xild 43 ⟨u272, _, rfl⟩ rfl rfl ?_
        refine xcall 46 [.ref 66, .int _, .int _, .int _] [] hH36 ⟨u272, _, rfl⟩ rfl rfl rfl rfl rfl (k_ptR hH36 P36 S36.1 (x := a.toInt.toNat) (y := b.toInt.toNat) (z := c.toInt.toNat) (by omega) (by omega) (by omega) (by omega) (by omega) (by omega) (by omega) (by omega) (by omega) fr (fun hp43 hH43 P43 F43 C43 => ⟨_, rfl, ?_⟩))
        have S43 := rfS_67 S36 F43 C43
        refine xald 47 ⟨u272, _, rfl⟩ rfl rfl ?_
        refine xcall 50 [.ref 66] [] hH43 ⟨u272, _, rfl⟩ rfl rfl rfl rfl rfl (k_rlst hH43 (V := V) (T := sPut T a.toInt.toNat b.toInt.toNat c.toInt.toNat) (rowOk_rd S43.1) (fun hp47 hH47 F47 B47 L47 => ⟨_, rfl, ?_⟩))
        have S47 := rfS_W S43 F47 (fun _ => rfl) rfl rfl (fun _ => rfl) (fun _ => rfl)
        have P47 : P0 hp47 := P0_W (W := bLT) (by decide) F47 P43
        refine xald 51 ⟨u272, _, rfl⟩ rfl rfl ?_
        refine xcst 52 (1) ⟨u272, _, rfl⟩ rfl (by decide) (fun z51 h51 => ?_)
        refine xild 53 ⟨u272, _, rfl⟩ rfl rfl ?_
        refine xshl 54 ⟨u272, _, rfl⟩ rfl ?_
        refine xcst 55 (1) ⟨u272, _, rfl⟩ rfl (by decide) (fun z54 h54 => ?_)
        refine xild 56 ⟨u272, _, rfl⟩ rfl rfl ?_
        refine xshl 57 ⟨u272, _, rfl⟩ rfl ?_
        refine xor_ 58 ⟨u272, _, rfl⟩ rfl ?_
        refine xcst 59 (1) ⟨u272, _, rfl⟩ rfl (by decide) (fun z58 h58 => ?_)
        refine xild 60 ⟨u272, _, rfl⟩ rfl rfl ?_
        refine xshl 61 ⟨u272, _, rfl⟩ rfl ?_
        refine xor_ 62 ⟨u272, _, rfl⟩ rfl ?_
        have e1 := i_shl h51 (n := a.toInt.toNat) (c := a) (by omega) (by omega)
        have e2 := i_shl h54 (n := b.toInt.toNat) (c := b) (by omega) (by omega)
        have e3 := i_or e1.1 e2.1 e1.2 e2.2
        have e4 := i_shl h58 (n := c.toInt.toNat) (c := c) (by omega) (by omega)
        have e5 := i_or e3.1 e4.1 e3.2 e4.2
        refine xcall 65 [.ref 66, .int _] [] hH47 ⟨u272, _, rfl⟩ rfl rfl rfl rfl rfl (k_rnof hH47 B47 L47 (m := m3 a.toInt.toNat b.toInt.toNat c.toInt.toNat) e5.1 (fun z62 h62 => ⟨_, rfl, ?_⟩))
        exact xret ⟨u272, _, rfl⟩ rfl (hR _ hp47 hH47 P47 ((((bFr_sub F4 (by decide)).trans (bFr_sub F36 (by decide))).trans (bFr_sub F43 (by decide))).trans (bFr_sub F47 (by decide))) (by rw [cod, show rN hp47 66 7 = rN hp43 66 7 from r_fr F47 rfl, show rN hp43 66 7 = rN hp36 66 7 from r_fr F43 rfl, show rN hp36 66 7 = rN hp4 66 7 from r_fr F36 rfl, t4, g4]) (Or.inr ⟨cod, S47, h62⟩))
      · rcases V27 with ⟨q1, -⟩ | ⟨q1, -⟩ <;> omega
    · refine xcst 22 (1) ⟨u272, _, rfl⟩ rfl (by decide) (fun z21 h21 => ?_)
      refine xgoto ⟨u272, _, rfl⟩ ?_
      refine xcst 27 (3) ⟨u272, _, rfl⟩ rfl (by decide) (fun z26 h26 => ?_)
      refine xcall 30 [.ref 66, .int _, .int _] [] hH4 ⟨u272, _, rfl⟩ rfl rfl rfl rfl rfl (k_failsE hH4 (by omega) (fun hp27 hH27 V27 => ⟨_, rfl, ?_⟩))
      refine xif_eq 33 ⟨u272, _, rfl⟩ rfl (fun c30 => ?_) (fun c30 => ?_)
      · rcases V27 with ⟨q1, -⟩ | ⟨q1, -⟩ <;> omega
      · refine xcst 34 (0) ⟨u272, _, rfl⟩ rfl (by decide) (fun z33 h33 => ?_)
        rcases V27 with ⟨q1, -⟩ | ⟨q1, U⟩
        · omega
        · have nf : ¬ sFree T a.toInt.toNat b.toInt.toNat c.toInt.toNat := fun z => by have := rsn_0.mpr z; omega
          exact xret ⟨u272, _, rfl⟩ rfl (hR _ hp27 hH27 (P0_W (W := [(66, 7)]) (by decide) (rU_fr U rfl) P4) ((bFr_sub F4 (by decide)).trans (rU_fr U (by decide))) (by rw [U.1, aCd_3 g4 nf]; exact h26) (Or.inl ⟨by rw [aCd_3 g4 nf]; decide, rfS_W (W := [(66, 7)]) S4 (rU_fr U rfl) (fun _ => rfl) rfl rfl (fun _ => rfl) (fun _ => rfl)⟩))
end
/-! ##### 19.m.046.34a ##### -/
section
/-! ===== sets of three points ===== -/
/-- a set of three points by its bits -/
theorem b3_s {x : Int32} {i : Nat} (hx : x.toInt = (i : Int)) (hi : i < 32768) (h : (bcF x).toInt = 3) : ∃ a b c : Nat, (ntF x).toInt = (a : Int) ∧ (ntF (x &&& (x - 1))).toInt = (b : Int) ∧ a < b ∧ b < c ∧ c < 15 ∧ i = m3 a b c := by
  have e : x = Int32.ofNat i := Int32.toInt_inj.mp (by rw [hx, Int32.toInt_ofNat_of_lt (by omega)])
  have k := b3_all hi
  unfold b3Ok at k
  dsimp only at k
  rw [← e, h] at k
  have k : (decide (0 ≤ (ntF x).toInt) && (decide (0 ≤ (ntF (x &&& (x - 1))).toInt) && (Nat.blt (ntF x).toInt.toNat (ntF (x &&& (x - 1))).toInt.toNat && (Nat.blt (ntF (x &&& (x - 1))).toInt.toNat (ntF ((x &&& (x - 1)) &&& ((x &&& (x - 1)) - 1))).toInt.toNat && (Nat.blt (ntF ((x &&& (x - 1)) &&& ((x &&& (x - 1)) - 1))).toInt.toNat 15 && Nat.beq i (2 ^ (ntF x).toInt.toNat ||| 2 ^ (ntF (x &&& (x - 1))).toInt.toNat ||| 2 ^ (ntF ((x &&& (x - 1)) &&& ((x &&& (x - 1)) - 1))).toInt.toNat)))))) = true := k
  simp only [Bool.and_eq_true, decide_eq_true_eq] at k
  obtain ⟨k0, k1, k2, k3, k4, k5⟩ := k
  have k2 : (ntF x).toInt.toNat < (ntF (x &&& (x - 1))).toInt.toNat := Nat.le_of_ble_eq_true k2
  have k3 : (ntF (x &&& (x - 1))).toInt.toNat < (ntF ((x &&& (x - 1)) &&& ((x &&& (x - 1)) - 1))).toInt.toNat := Nat.le_of_ble_eq_true k3
  have k4 : (ntF ((x &&& (x - 1)) &&& ((x &&& (x - 1)) - 1))).toInt.toNat < 15 := Nat.le_of_ble_eq_true k4
  exact ⟨_, _, _, by omega, by omega, k2, k3, k4, Nat.eq_of_beq_eq_true k5⟩
theorem bc_m3 : ∀ x y z : Fin 15, x.1 < y.1 → y.1 < z.1 → bcN (m3 x.1 y.1 z.1) = 3 := by decide +kernel
/-- three points in their order are known by their set -/
theorem m3_inj {a b c x y z : Nat} (h : m3 a b c = m3 x y z) (h1 : a < b) (h2 : b < c) (h3 : x < y) (h4 : y < z) : a = x ∧ b = y ∧ c = z := by
  have q := m3_eq h
  have q1 := (q a).mp (Or.inl rfl)
  have q2 := (q b).mp (Or.inr (Or.inl rfl))
  have q3 := (q c).mp (Or.inr (Or.inr rfl))
  omega
theorem nm_neg {V : Nat} {T : sT} (hT : sOk V T) {m : Nat} (h : ∀ x y z : Nat, x < y → y < z → m = m3 x y z → ¬ T x y = (z : Int)) : nmT T m = -1 := by
  refine nmF_no _ _ (fun j h1 h2 => fun e => ?_)
  obtain ⟨g1, g2, g3⟩ := trL_get 225 j (show j < (trL T 225).length by omega)
  obtain ⟨z, ez, k1, k2, k3⟩ := tr_pts hT g1
  refine h _ _ z k1 k2 ?_ ez
  rw [← e]
  unfold mk3
  rw [ez, Int.toNat_natCast]
theorem u221 : bUp 0 am_m221.1 = true := by decide +kernel
theorem bc_of {x : Int32} {i : Nat} (hx : x.toInt = (i : Int)) : (bcF x).toInt = bcN i := by
  have : x = Int32.ofNat i := Int32.toInt_inj.mp (by
    have := aMax x
    rw [hx, Int32.toInt_ofNat_of_lt (by omega)])
  unfold bcN
  rw [← this]
theorem k_ntR {d : Nat} {hp : amH} {R : xQ} {x : Int32} (hR : ∀ z : Int32, z.toInt = (ntF x).toInt → R (.inl (some (.int z))) hp) : xK d 342 [.int x] hp R :=
  ⟨am_m342, rfl, w_ntz (hR _ rfl)⟩
/-- whether a set is a triple -/
theorem k_rist {d : Nat} {hp : amH} {R : xQ} {V i : Nat} {T : sT} {x : Int32} (hH : bHk 84 bTT hp) (hB : rdOk hp V T) (hx : x.toInt = (i : Int)) (hi : i < 32768) (hR : ∀ r : Int32, ((r.toInt = 1 ∧ ¬ nmT T i = -1) ∨ (r.toInt = 0 ∧ nmT T i = -1)) → R (.inl (some (.int r))) hp) : xK (d + 1) 221 [.ref 66, .int x] hp R := by
  have hV := hB.2.1.2.1
  refine xin (M := am_m221) rfl rfl rfl ?_
  refine xild 1 ⟨u221, _, rfl⟩ rfl rfl ?_
  refine xcallS 4 [.int _] [] hH ⟨u221, _, rfl⟩ rfl rfl rfl rfl rfl (k_bc hx (fun z1 h1 => ⟨_, rfl, ?_⟩))
  have hbc := bc_of hx
  refine xcst 5 (3) ⟨u221, _, rfl⟩ rfl (by decide) (fun z4 h4 => ?_)
  refine xcmp_eq 8 ⟨u221, _, rfl⟩ rfl (fun c5 => ?_) (fun c5 => ?_)
  · obtain ⟨a, b, c, n1, n2, l1, l2, l3, rfl⟩ := b3_s hx hi (by omega)
    refine xild 11 ⟨u221, _, rfl⟩ rfl rfl ?_
    refine xcallS 14 [.int _] [] hH ⟨u221, _, rfl⟩ rfl rfl rfl rfl rfl (k_ntR (fun z11 h11 => ⟨_, rfl, ?_⟩))
    refine xist 15 ⟨u221, _, rfl⟩ rfl rfl ?_
    refine xild 16 ⟨u221, _, rfl⟩ rfl rfl ?_
    refine xild 17 ⟨u221, _, rfl⟩ rfl rfl ?_
    refine xcst 18 (1) ⟨u221, _, rfl⟩ rfl (by decide) (fun z17 h17 => ?_)
    refine xsub 19 _ ⟨u221, _, rfl⟩ rfl rfl (by omega) (by omega) (fun z18 h18 => ?_)
    have e18 : z18 = x - 1 := Int32.toInt_inj.mp (by rw [Int32.toInt_sub, show (1 : Int32).toInt = 1 by decide, aBmod (by omega) (by omega)]; omega)
    subst e18
    refine xand 20 ⟨u221, _, rfl⟩ rfl ?_
    refine xcallS 23 [.int _] [] hH ⟨u221, _, rfl⟩ rfl rfl rfl rfl rfl (k_ntR (fun z20 h20 => ⟨_, rfl, ?_⟩))
    refine xist 24 ⟨u221, _, rfl⟩ rfl rfl ?_
    refine xald 25 ⟨u221, _, rfl⟩ rfl rfl ?_
    refine xild 26 ⟨u221, _, rfl⟩ rfl rfl ?_
    refine xild 27 ⟨u221, _, rfl⟩ rfl rfl ?_
    refine xcall 30 [.ref 66, .int _, .int _] [] hH ⟨u221, _, rfl⟩ rfl rfl rfl rfl rfl (k_third hH (by omega) (by omega) (by omega) (by omega) (fun z27 h27 => ⟨_, rfl, ?_⟩))
    rw [show z11.toInt.toNat = a by omega, show z20.toInt.toNat = b by omega, hB.2.2.1 a b (by omega) (by omega)] at h27
    refine xist2 32 ⟨u221, _, rfl⟩ rfl rfl ?_
    refine xild2 34 ⟨u221, _, rfl⟩ rfl rfl ?_
    refine xcst 35 (-1) ⟨u221, _, rfl⟩ rfl (by decide) (fun z34 h34 => ?_)
    refine xcmp_eq 38 ⟨u221, _, rfl⟩ rfl (fun c35 => ?_) (fun c35 => ?_)
    · refine xcst 53 (0) ⟨u221, _, rfl⟩ rfl (by decide) (fun z52 h52 => ?_)
      exact xretB ⟨u221, _, rfl⟩ rfl (by omega) (hR _ (Or.inr ⟨h52, nm_no hB.2.1 (by omega) (by omega) (by omega) (by omega)⟩))
    · refine xild 39 ⟨u221, _, rfl⟩ rfl rfl ?_
      refine xild2 41 ⟨u221, _, rfl⟩ rfl rfl ?_
      refine xshr 42 ⟨u221, _, rfl⟩ rfl ?_
      refine xcst 43 (1) ⟨u221, _, rfl⟩ rfl (by decide) (fun z42 h42 => ?_)
      refine xand 44 ⟨u221, _, rfl⟩ rfl ?_
      obtain ⟨w, ew, w1, w2, w3, w4, w5, w6, -⟩ := sOk_at hB.2.1 (rfl : T a b = _) (by omega)
      have hb1 := i_bit hx hi (show z27.toInt = (w : Int) by omega) (by omega) h42
      rw [m3_test] at hb1
      have hb2 : decide (w = a ∨ w = b ∨ w = c) = true ∨ decide (w = a ∨ w = b ∨ w = c) = false := by cases decide (w = a ∨ w = b ∨ w = c) <;> simp
      have hb3 : ((x >>> (z27 &&& 31) &&& z42).toInt = 1 ∧ w = c) ∨ ((x >>> (z27 &&& 31) &&& z42).toInt = 0 ∧ ¬ w = c) := by
        rcases hb2 with g | g
        · rw [g] at hb1; exact Or.inl ⟨hb1, by have := of_decide_eq_true g; omega⟩
        · rw [g] at hb1; exact Or.inr ⟨hb1, by have := of_decide_eq_false g; omega⟩
      refine xcst 45 (1) ⟨u221, _, rfl⟩ rfl (by decide) (fun z44 h44 => ?_)
      refine xcmp_ne 48 ⟨u221, _, rfl⟩ rfl (fun c45 => ?_) (fun c45 => ?_)
      · refine xcst 53 (0) ⟨u221, _, rfl⟩ rfl (by decide) (fun z52 h52 => ?_)
        exact xretB ⟨u221, _, rfl⟩ rfl (by omega) (hR _ (Or.inr ⟨h52, nm_no hB.2.1 (by omega) (by omega) (by omega) (by omega)⟩))
      · refine xcst 49 (1) ⟨u221, _, rfl⟩ rfl (by decide) (fun z48 h48 => ?_)
        refine xgoto ⟨u221, _, rfl⟩ ?_
        exact xretB ⟨u221, _, rfl⟩ rfl (by omega) (hR _ (Or.inl ⟨h48, by obtain ⟨t, t1, t2, t3⟩ := nm_of hB.2.1 (a := a) (b := b) (c := c) (by omega); omega⟩))
  · refine xcst 9 (0) ⟨u221, _, rfl⟩ rfl (by decide) (fun z8 h8 => ?_)
    exact xretB ⟨u221, _, rfl⟩ rfl (by omega) (hR _ (Or.inr ⟨h8, nm_neg hB.2.1 (fun x y z q1 q2 q3 q4 => by obtain ⟨w, ew, w1, w2, w3, -⟩ := sOk_at hB.2.1 q4 (by omega); have e9 : bcN (m3 x y z) = 3 := bc_m3 ⟨x, by omega⟩ ⟨y, by omega⟩ ⟨z, by omega⟩ q1 q2; rw [← q3] at e9; omega)⟩))
end
/-! ##### 19.m.047.34b ##### -/
section
/-! ===== quadrilaterals in their order (pure); the class gathers them ===== -/
/-- the numbers below n that B says -/
noncomputable def fL (B : Nat → Bool) : Nat → List Nat
  | 0 => []
  | n + 1 => if B n = true then fL B n ++ [n] else fL B n
theorem fL_add {B : Nat → Bool} {n : Nat} (h : B n = true) : fL B (n + 1) = fL B n ++ [n] := by
  show (if B n = true then _ else _) = _
  rw [if_pos h]
theorem fL_skip {B : Nat → Bool} {n : Nat} (h : ¬ B n = true) : fL B (n + 1) = fL B n := by
  show (if B n = true then _ else _) = _
  rw [if_neg h]
theorem fL_no {B : Nat → Bool} {n n1 : Nat} (h : n ≤ n1) (hn : ∀ k, n ≤ k → k < n1 → ¬ B k = true) : fL B n1 = fL B n := by
  induction n1 with
  | zero => rw [show n = 0 by omega]
  | succ m ih =>
    by_cases e : n = m + 1
    · rw [e]
    · rw [fL_skip (hn m (by omega) (by omega))]
      exact ih (by omega) (fun k k1 k2 => hn k k1 (by omega))
theorem fL_mono {B : Nat → Bool} (n : Nat) : ∀ k, (fL B n).length ≤ (fL B (n + k)).length
  | 0 => Nat.le_refl _
  | k + 1 => by
    have := fL_mono (B := B) n k
    have e : fL B (n + (k + 1)) = (if B (n + k) = true then fL B (n + k) ++ [n + k] else fL B (n + k)) := rfl
    rw [e]
    split
    · rw [List.length_append]; omega
    · exact this
theorem fL_le {B : Nat → Bool} {n m : Nat} (h : n ≤ m) : (fL B n).length ≤ (fL B m).length := by
  obtain ⟨k, rfl⟩ := Nat.exists_eq_add_of_le h
  exact fL_mono n k
theorem fL_get {B : Nat → Bool} : ∀ n t, t < (fL B n).length → B ((fL B n).getD t 0) = true ∧ (fL B n).getD t 0 < n ∧ (fL B ((fL B n).getD t 0)).length = t
  | 0, t, h => absurd h (Nat.not_lt_zero t)
  | n + 1, t, h => by
    by_cases hb : B n = true
    · have e : fL B (n + 1) = fL B n ++ [n] := fL_add hb
      rw [e] at h ⊢
      rw [List.length_append, List.length_singleton] at h
      by_cases g : t = (fL B n).length
      · subst g
        rw [gd_end]
        exact ⟨hb, Nat.lt_succ_self n, rfl⟩
      · rw [gd_app (by omega)]
        obtain ⟨g1, g2, g3⟩ := fL_get (B := B) n t (by omega)
        exact ⟨g1, by omega, g3⟩
    · rw [fL_skip hb] at h ⊢
      obtain ⟨g1, g2, g3⟩ := fL_get n t h
      exact ⟨g1, by omega, g3⟩
/-- the set of the triple numbered t -/
noncomputable def mN (T : sT) (t : Nat) : Nat := mk3 T ((trL T 225).getD t 0)
/-- what three triples leave -/
noncomputable def qR (T : sT) (n : Nat) : Nat := mN T (n / 1225) ^^^ mN T (n / 35 % 35) ^^^ mN T (n % 35)
/-- three triples, rising, begin a quadrilateral -/
noncomputable def qdB (T : sT) (n : Nat) : Bool := decide (n / 1225 < n / 35 % 35 ∧ n / 35 % 35 < n % 35 ∧ n % 35 < (trL T 225).length ∧ ¬ mN T (n / 1225) &&& mN T (n / 35 % 35) = 0 ∧ ((n % 35 : Nat) : Int) < nmT T (qR T n))
theorem mN_lt {V : Nat} {T : sT} (hT : sOk V T) {t : Nat} (ht : t < (trL T 225).length) : mN T t < 32768 ∧ ∀ p, (mN T t).testBit p = true → p < V := by
  obtain ⟨g1, g2, g3⟩ := trL_get 225 t ht
  obtain ⟨z, ez, h1, h2, h3⟩ := tr_pts hT g1
  have hV := hT.2.1
  unfold mN mk3
  rw [ez, Int.toNat_natCast]
  refine ⟨(m3_lt (by omega) (by omega) (by omega)), fun p hp => ?_⟩
  rw [m3_test] at hp
  have := of_decide_eq_true hp
  omega
/-- the class's quadrilaterals up to n: how many, their triples, their points -/
noncomputable def qdN (hp : amH) (T : sT) (n : Nat) : Prop := rN hp 49 0 = (((fL (qdB T) n).length : Nat) : Int) ∧ ∀ q, q < (fL (qdB T) n).length → rJ hp 50 q = ((2 ^ ((fL (qdB T) n).getD q 0 / 1225) ||| 2 ^ ((fL (qdB T) n).getD q 0 / 35 % 35) ||| 2 ^ ((fL (qdB T) n).getD q 0 % 35) ||| 2 ^ (nmT T (qR T ((fL (qdB T) n).getD q 0))).toNat : Nat) : Int) ∧ rN hp 51 q = ((mN T ((fL (qdB T) n).getD q 0 / 1225) ||| mN T ((fL (qdB T) n).getD q 0 / 35 % 35) ||| qR T ((fL (qdB T) n).getD q 0) : Nat) : Int)
theorem qdN_fr {hp hp1 : amH} {T : sT} {n : Nat} (h : qdN hp T n) (F : ∀ c k, c = 49 ∨ c = 50 ∨ c = 51 → bFld hp1 c k = bFld hp c k) : qdN hp1 T n :=
  ⟨(rN_eq (F 49 0 (Or.inl rfl))).trans h.1, fun q hq => ⟨(rJ_eq (F 50 q (Or.inr (Or.inl rfl)))).trans (h.2 q hq).1, (rN_eq (F 51 q (Or.inr (Or.inr rfl)))).trans (h.2 q hq).2⟩⟩
theorem u57 : bUp 0 am_m57.1 = true := by decide +kernel
theorem u58 : bUp 0 am_m58.1 = true := by decide +kernel
theorem k_setL {d t : Nat} {T : sT} {hp : amH} {R : xQ} {a : Int32} (hH : bHk 84 bTT hp) (hL : lsN hp 3 T 225) (ha : a.toInt = (t : Int)) (ht : t < (trL T 225).length) (hR : ∀ z : Int32, z.toInt = ((mN T t : Nat) : Int) → R (.inl (some (.int z))) hp) : xK d 9 [.ref 3, .int a] hp R :=
  k_set (o := 3) (Or.inl rfl) hH (fun z h => hR z (by
    have L1 := hL.1
    rw [h, if_pos (by omega), show a.toInt.toNat = t by omega]
    exact hL.2.1 t ht))
theorem k_kpq {d n i j k l u : Nat} {T : sT} {hp : amH} {R : xQ} {a b c e f : Int32} (hH : bHk 84 bTT hp) (hQ : qdN hp T n) (hb : qdB T n = true) (h105 : (fL (qdB T) (n + 1)).length ≤ 105) (ha : a.toInt = (i : Int)) (hb2 : b.toInt = (j : Int)) (hc : c.toInt = (k : Int)) (he : e.toInt = (l : Int)) (hf : f.toInt = (u : Int)) (hi : n / 1225 = i) (hj : n / 35 % 35 = j) (hk : n % 35 = k) (hl : nmT T (qR T n) = (l : Int)) (hu : u = mN T i ||| mN T j ||| qR T n) (hi2 : i < 35) (hl2 : l < 35)
    (hR : ∀ hp1, bHk 84 bTT hp1 → bFx [49, 50, 51] hp hp1 → qdN hp1 T (n + 1) → R (.inl none) hp1) : xK d 58 [.ref 49, .int a, .int b, .int c, .int e, .int f] hp R := by
  have q1 := rb_c hH (c := 49) (by decide) (show bTT 49 = some (4, 3, [.inl (2147483648, 2147483753), .inr (.inr [50]), .inr (.inr [51])]) from rfl) (f := 0) rfl (by decide)
  have em := aMin f
  have ex := aMax f
  rw [fL_add hb, List.length_append, List.length_singleton] at h105
  obtain ⟨Q1, Q2⟩ := id hQ
  refine xin (M := am_m58) rfl rfl rfl ?_
  refine xald 1 ⟨u58, _, rfl⟩ rfl rfl ?_
  refine xgetC 4 hH ⟨u58, _, rfl⟩ rfl (by decide) (by decide) rfl rfl (by decide) (fun z1 h1 => ?_)
  refine xbip 6 (105) ⟨u58, _, rfl⟩ rfl (by decide) (fun z4 h4 => ?_)
  refine xcmp_ge 9 ⟨u58, _, rfl⟩ rfl (fun c6 => ?_) (fun c6 => ?_)
  · omega
  · refine xald 10 ⟨u58, _, rfl⟩ rfl rfl ?_
    refine xgetD 13 (50) hH ⟨u58, _, rfl⟩ rfl (by decide) (by decide) rfl rfl (by decide) ?_
    refine xald 14 ⟨u58, _, rfl⟩ rfl rfl ?_
    refine xgetC 17 hH ⟨u58, _, rfl⟩ rfl (by decide) (by decide) rfl rfl (by decide) (fun z14 h14 => ?_)
    refine xlcst 18 (1) ⟨u58, _, rfl⟩ rfl (by decide) (fun z17 h17 => ?_)
    refine xild 19 ⟨u58, _, rfl⟩ rfl rfl ?_
    refine xlshl 20 ⟨u58, _, rfl⟩ rfl ?_
    refine xlcst 21 (1) ⟨u58, _, rfl⟩ rfl (by decide) (fun z20 h20 => ?_)
    refine xild 22 ⟨u58, _, rfl⟩ rfl rfl ?_
    refine xlshl 23 ⟨u58, _, rfl⟩ rfl ?_
    refine xlor 24 ⟨u58, _, rfl⟩ rfl ?_
    refine xlcst 25 (1) ⟨u58, _, rfl⟩ rfl (by decide) (fun z24 h24 => ?_)
    refine xild 26 ⟨u58, _, rfl⟩ rfl rfl ?_
    refine xlshl 27 ⟨u58, _, rfl⟩ rfl ?_
    refine xlor 28 ⟨u58, _, rfl⟩ rfl ?_
    refine xlcst 29 (1) ⟨u58, _, rfl⟩ rfl (by decide) (fun z28 h28 => ?_)
    refine xild2 31 ⟨u58, _, rfl⟩ rfl rfl ?_
    refine xlshl 32 ⟨u58, _, rfl⟩ rfl ?_
    refine xlor 33 ⟨u58, _, rfl⟩ rfl ?_
    have w1 := j_shl h17 ha (by omega)
    have w2 := j_shl h20 hb2 (by omega)
    have w3 := j_or w1 w2
    have w4 := j_shl h24 hc (by omega)
    have w5 := j_or w3 w4
    have w6 := j_shl h28 he (by omega)
    have w7 := j_or w5 w6
    refine xlast 34 (z14).toInt.toNat hH ⟨u58, _, rfl⟩ rfl (by decide) rfl (by omega) (by omega) (fun hp33 hH33 U33 => ?_)
    have e33 : rN hp33 49 0 = rN hp 49 0 := rV_ne U33 (by omega)
    refine xald 35 ⟨u58, _, rfl⟩ rfl rfl ?_
    refine xgetD 38 (51) hH33 ⟨u58, _, rfl⟩ rfl (by decide) (by decide) rfl rfl (by decide) ?_
    refine xald 39 ⟨u58, _, rfl⟩ rfl rfl ?_
    refine xgetC 42 hH33 ⟨u58, _, rfl⟩ rfl (by decide) (by decide) rfl rfl (by decide) (fun z39 h39 => ?_)
    refine xild2 44 ⟨u58, _, rfl⟩ rfl rfl ?_
    refine xiast 45 (z39).toInt.toNat hH33 ⟨u58, _, rfl⟩ rfl (by decide) rfl (by omega) (by omega) (by omega) (by omega) (fun hp44 hH44 U44 => ?_)
    have s44 := U44.1
    have e44 : rN hp44 49 0 = rN hp 49 0 := (rU_ne U44 (by first | decide | exact (fun z => absurd z.1 (by decide)) | omega)).trans e33
    refine xald 46 ⟨u58, _, rfl⟩ rfl rfl ?_
    refine xdup 47 ⟨u58, _, rfl⟩ rfl rfl ?_
    refine xgetC 50 hH44 ⟨u58, _, rfl⟩ rfl (by decide) (by decide) rfl rfl (by decide) (fun z47 h47 => ?_)
    refine xcst 51 (1) ⟨u58, _, rfl⟩ rfl (by decide) (fun z50 h50 => ?_)
    refine xadd 52 _ ⟨u58, _, rfl⟩ rfl rfl (by omega) (by omega) (fun z51 h51 => ?_)
    refine xputC 55 hH44 ⟨u58, _, rfl⟩ rfl (by decide) (by decide) rfl rfl (by decide) ⟨rfl, rfl⟩ (by omega) (by omega) (fun hp52 hH52 U52 => ?_)
    have s52 := U52.1
    have s33 := rV_J U33
    refine xretV ⟨u58, _, rfl⟩ rfl (hR hp52 hH52 (((bY_bx U33 (by simp)).trans (bFx_U U44 (by simp))).trans (bFx_U U52 (by simp))) ⟨by rw [fL_add hb, List.length_append, List.length_singleton]; omega, fun q hq => ?_⟩)
    rw [fL_add hb, List.length_append, List.length_singleton] at hq
    rw [fL_add hb]
    by_cases g : q = (fL (qdB T) n).length
    · subst g
      rw [gd_end, hi, hj, hk, hl, Int.toNat_natCast]
      refine ⟨?_, ?_⟩
      · rw [rJ_ne U52 (by omega), rJ_ne U44 (by omega), show (fL (qdB T) n).length = z14.toInt.toNat by omega, s33]
        exact w7
      · rw [rU_ne U52 (by first | decide | exact (fun z => absurd z.1 (by decide)) | omega), show (fL (qdB T) n).length = z39.toInt.toNat by omega, U44.1, hf, hu]
    · rw [gd_app (by omega)]
      obtain ⟨k1, k2⟩ := Q2 q (by omega)
      refine ⟨?_, ?_⟩
      · rw [rJ_ne U52 (by omega), rJ_ne U44 (by omega), rJ_eq (U33.2 50 q (by omega))]
        exact k1
      · rw [rU_ne U52 (by first | decide | exact (fun z => absurd z.1 (by decide)) | omega), rU_ne U44 (by first | decide | exact (fun z => absurd z.1 (by decide)) | omega), rV_ne U33 (by omega)]
        exact k2
end
