/-! ##### 19.m.086.38i ##### -/
section
/-! ===== the class switches a quadrilateral, and tells what switches would bring ===== -/
theorem xaddB {M : amM} {pc a b d : Nat} {L : List (Option Value)} {st : List Value} {hp : amH} {Q : xQ} (q : Nat) {x y : Int32} (h : xI M pc .iadd a b) (e : q = pc + 1) (hw : ∀ z : Int32, z.toInt = wr (x.toInt + y.toInt) → xV d M q L (.int z :: st) hp Q) : xV d M pc L (.int y :: .int x :: st) hp Q := by
  refine xstep h (fun cl hl => ⟨cl, ?_, hl⟩) (hw (x + y) (by rw [Int32.toInt_add]; rfl))
  subst e
  simp [amDo, amStep, amII]
theorem u63 : bUp 0 am_m63.1 = true := by decide +kernel
theorem u180 : bUp 0 am_m180.1 = true := by decide +kernel
theorem u186 : bUp 0 am_m186.1 = true := by decide +kernel
theorem u187 : bUp 0 am_m187.1 = true := by decide +kernel
theorem u188 : bUp 0 am_m188.1 = true := by decide +kernel
theorem u136 : bUp 0 am_m136.1 = true := by decide +kernel
theorem u138 : bUp 0 am_m138.1 = true := by decide +kernel
theorem u139 : bUp 0 am_m139.1 = true := by decide +kernel
theorem k_rqQ {d n : Nat} {hp : amH} {R : xQ} {t : Int32} (hH : bHk 84 bTT hp) (hn : rN hp 49 0 = (n : Int)) (h0 : gTri n t.toInt = 0 → R (.inl none) hp) (h1 : gTri n t.toInt = 1 → R (.inr 1) hp) : xK d 180 [.ref 0, .int t] hp R := by
  refine xin (M := am_m180) rfl rfl rfl ?_
  refine xild 1 ⟨u180, _, rfl⟩ rfl rfl ?_
  refine xif_lt 4 ⟨u180, _, rfl⟩ rfl (fun c1 => ?_) (fun c1 => ?_)
  · exact xthr ⟨u180, _, rfl⟩ (by decide) rfl (by decide) (h1 (by unfold gTri; rw [if_neg (by omega)]))
  · refine xild 5 ⟨u180, _, rfl⟩ rfl rfl ?_
    refine xald 6 ⟨u180, _, rfl⟩ rfl rfl ?_
    refine xgetD 9 (49) hH ⟨u180, _, rfl⟩ rfl (by decide) (by decide) rfl rfl (by decide) ?_
    refine xgetC 12 hH ⟨u180, _, rfl⟩ rfl (by decide) (by decide) rfl rfl (by decide) (fun z9 h9 => ?_)
    refine xcmp_lt 15 ⟨u180, _, rfl⟩ rfl (fun c12 => ?_) (fun c12 => ?_)
    · exact xretV ⟨u180, _, rfl⟩ rfl (h0 (gTri_0.mpr (by omega)))
    · exact xthr ⟨u180, _, rfl⟩ (by decide) rfl (by decide) (h1 (by unfold gTri; rw [if_neg (by omega)]))
theorem l63E {d V x : Nat} {T : sT} {D : List Nat} {hp : amH} {R : xQ} {a : Int64} (hH : bHk 84 bTT hp) (hT : sOk V T) (hQ : qdN hp T 42875) (ha : a.toInt = (x : Int)) (hx : ∀ u, x.testBit u = true ↔ u ∈ D)
    (hR : ∀ r : Int32, r.toInt = (((fL (qdB T) 42875).countP (hitQ T D) : Nat) : Int) → R (.inl (some (.int r))) hp) :
    ∀ (jj q : Nat) (w wt : Int32), wt.toInt = (q : Int) → q + jj = nQ T → w.toInt = ((((fL (qdB T) 42875).take q).countP (hitQ T D) : Nat) : Int) → xV (d + 1) am_m63 5 [some (.ref 49), some (.long a), none, some (.int w), some (.int wt)] [] hp R := by
  have h105 : nQ T ≤ 105 := q105 hT
  have Q1 : rN hp 49 0 = ((nQ T : Nat) : Int) := hQ.1
  intro jj
  induction jj with
  | zero =>
    intro q w wt hwt hj hw
    have et : q = nQ T := by omega
    have et : q = (fL (qdB T) 42875).length := et
    rw [et, List.take_length] at hw
    refine xild2 7 ⟨u63, _, rfl⟩ rfl rfl ?_
    refine xald 8 ⟨u63, _, rfl⟩ rfl rfl ?_
    refine xgetC 11 hH ⟨u63, _, rfl⟩ rfl (by decide) (by decide) rfl rfl (by decide) (fun z8 h8 => ?_)
    refine xcmp_ge 14 ⟨u63, _, rfl⟩ rfl (fun c11 => ?_) (fun c11 => ?_)
    · refine xild 37 ⟨u63, _, rfl⟩ rfl rfl ?_
      exact xret ⟨u63, _, rfl⟩ rfl (hR _ hw)
    · omega
  | succ jj ih =>
    intro q w wt hwt hj hw
    have hq : q < nQ T := by omega
    obtain ⟨n1, n2, n3, n4, n5, n6, n7⟩ := qd_at hT hQ hq rfl
    have hm := hitQ_m (T := T) (D := D) n6 hx
    have cle : ((fL (qdB T) 42875).take q).countP (hitQ T D) ≤ ((fL (qdB T) 42875).take q).length := List.countP_le_length
    rw [List.length_take] at cle
    have cs : ((fL (qdB T) 42875).take (q + 1)).countP (hitQ T D) = ((fL (qdB T) 42875).take q).countP (hitQ T D) + (if hitQ T D (cQ2 T q) = true then 1 else 0) := by
      rw [tk_succ hq, List.countP_append]
      by_cases g : hitQ T D (cQ2 T q) = true
      · rw [if_pos g, List.countP_cons_of_pos g]
        rfl
      · rw [if_neg g, List.countP_cons_of_neg g]
        rfl
    refine xild2 7 ⟨u63, _, rfl⟩ rfl rfl ?_
    refine xald 8 ⟨u63, _, rfl⟩ rfl rfl ?_
    refine xgetC 11 hH ⟨u63, _, rfl⟩ rfl (by decide) (by decide) rfl rfl (by decide) (fun z8 h8 => ?_)
    refine xcmp_ge 14 ⟨u63, _, rfl⟩ rfl (fun c11 => ?_) (fun c11 => ?_)
    · omega
    · refine xald 15 ⟨u63, _, rfl⟩ rfl rfl ?_
      refine xild2 17 ⟨u63, _, rfl⟩ rfl rfl ?_
      refine xcallC 20 (o := 49) [.int _] [] hH ⟨u63, _, rfl⟩ rfl rfl (by decide) rfl (by decide) rfl ⟨rfl, rfl, rfl, rfl⟩ rfl (k_mkQ hH hwt n3 (fun z17 h17 => ⟨_, rfl, ?_⟩))
      rw [n4] at h17
      refine xlld 21 ⟨u63, _, rfl⟩ rfl rfl ?_
      refine xland 22 ⟨u63, _, rfl⟩ rfl ?_
      have la := j_and h17 ha
      refine xlcst 23 (0) ⟨u63, _, rfl⟩ rfl (by decide) (fun z22 h22 => ?_)
      refine xlcmp 24 ⟨u63, _, rfl⟩ rfl (fun z23 h23 => ?_)
      refine xif_eq 27 ⟨u63, _, rfl⟩ rfl (fun c24 => ?_) (fun c24 => ?_)
      · have nh : ¬ hitQ T D (cQ2 T q) = true := fun z => hm.mp z (by omega)
        rw [if_neg nh] at cs
        refine xinc 33 (1) ⟨u63, _, rfl⟩ rfl rfl rfl (by decide) (by omega) (by omega) (fun z30 h30 => ?_)
        refine xgoto ⟨u63, _, rfl⟩ ?_
        exact ih (q + 1) w z30 (by omega) (by omega) (by rw [cs]; omega)
      · have nh : hitQ T D (cQ2 T q) = true := hm.mpr (by omega)
        rw [if_pos nh] at cs
        refine xinc 30 (1) ⟨u63, _, rfl⟩ rfl rfl rfl (by decide) (by omega) (by omega) (fun z27 h27 => ?_)
        refine xinc 33 (1) ⟨u63, _, rfl⟩ rfl rfl rfl (by decide) (by omega) (by omega) (fun z30 h30 => ?_)
        refine xgoto ⟨u63, _, rfl⟩ ?_
        exact ih (q + 1) z27 z30 (by omega) (by omega) (by rw [cs]; omega)
theorem k_hdA {d V x : Nat} {T : sT} {D : List Nat} {hp : amH} {R : xQ} {a : Int64} (hH : bHk 84 bTT hp) (hT : sOk V T) (hQ : qdN hp T 42875) (ha : a.toInt = (x : Int)) (hx : ∀ u, x.testBit u = true ↔ u ∈ D)
    (hR : ∀ r : Int32, r.toInt = (((fL (qdB T) 42875).countP (hitQ T D) : Nat) : Int) → R (.inl (some (.int r))) hp) : xK (d + 1) 63 [.ref 49, .long a] hp R := by
  refine xinJ (M := am_m63) rfl rfl rfl ?_
  refine xcst 1 (0) ⟨u63, _, rfl⟩ rfl (by decide) (fun z0 h0 => ?_)
  refine xist 2 ⟨u63, _, rfl⟩ rfl rfl ?_
  refine xcst 3 (0) ⟨u63, _, rfl⟩ rfl (by decide) (fun z2 h2 => ?_)
  refine xist2 5 ⟨u63, _, rfl⟩ rfl rfl ?_
  exact l63E hH hT hQ ha hx hR (nQ T) 0 _ _ h2 (by omega) (by rw [List.take_zero]; exact h0)
theorem k_188E {d V n x : Nat} {h : Nat → sR} {sv : Option sR} {T : sT} {ty : Nat → Int} {D C : List Nat} {hp : amH} {R : xQ} (hH : bHk 84 bTT hp) (hS : clS hp (V, T, ty) n h sv) (hD : ∀ t, t ∈ D → t < (trL T 225).length) (hE : exO hp (D.map (mN T)) C) (hJ : rJ hp 62 1 = (x : Int)) (hx : ∀ u, x.testBit u = true ↔ u ∈ D) (hG : tkOk T (D.map (mN T))) (hC : ptOk V (uTs T (D.map (mN T))) C)
    (hR : ∀ (z : Int32) hp1, bHk 84 bTT hp1 → bFx [8, 9, 11] hp hp1 → z.toInt = ((nQ (uPs (uTs T (D.map (mN T))) C) : Nat) : Int) → R (.inl (some (.int z))) hp1) : xK (d + 4) 188 [.ref 0] hp R := by
  have hB : bdOk hp 3 V T := hS.1
  have hT := hB.2.1
  have hT0 := sOk_uTs hT hG
  have lo := nQ_lost hT hD hT0
  have pu := nQ_cwL hT0 hC
  have h105 : nQ T ≤ 105 := q105 hT
  have hT1 := sOk_uPs hT0 hC
  have h105b : nQ (uPs (uTs T (D.map (mN T))) C) ≤ 105 := q105 hT1
  refine xin (M := am_m188) rfl rfl rfl ?_
  refine xald 1 ⟨u188, _, rfl⟩ rfl rfl ?_
  refine xgetD 4 (8) hH ⟨u188, _, rfl⟩ rfl (by decide) (by decide) rfl rfl (by decide) ?_
  refine xald 5 ⟨u188, _, rfl⟩ rfl rfl ?_
  refine xgetD 8 (3) hH ⟨u188, _, rfl⟩ rfl (by decide) (by decide) rfl rfl (by decide) ?_
  refine xcallC 11 (o := 8) [.ref 3] [] hH ⟨u188, _, rfl⟩ rfl rfl (by decide) rfl (by decide) rfl ⟨rfl, rfl, rfl, rfl⟩ rfl (k_cpB (o := 8) (o2 := 3) (Or.inr rfl) (Or.inl rfl) (by decide) hH hB (fun hp8 hH8 F8 B8 n8 => ⟨_, rfl, ?_⟩))
  have Q8 : qdN hp8 T 42875 := qdN_fr hS.2.2.1 (fun c k hc => F8 c k (by simp; omega))
  have J8 : rJ hp8 62 1 = (x : Int) := (rJ_eq (F8 62 1 (by simp))).trans hJ
  refine xald 12 ⟨u188, _, rfl⟩ rfl rfl ?_
  refine xgetD 15 (49) hH8 ⟨u188, _, rfl⟩ rfl (by decide) (by decide) rfl rfl (by decide) ?_
  refine xald 16 ⟨u188, _, rfl⟩ rfl rfl ?_
  refine xgetD 19 (62) hH8 ⟨u188, _, rfl⟩ rfl (by decide) (by decide) rfl rfl (by decide) ?_
  refine xgetJ 22 hH8 ⟨u188, _, rfl⟩ rfl (by decide) (by decide) rfl rfl (by decide) (fun z19 h19 => ?_)
  refine xcallC 25 (o := 49) [.long _] [] hH8 ⟨u188, _, rfl⟩ rfl rfl (by decide) rfl (by decide) rfl ⟨rfl, rfl, rfl, rfl⟩ rfl (k_hdA hH8 hT Q8 (h19.trans J8) hx (fun z22 h22 => ⟨_, rfl, ?_⟩))
  refine xist 26 ⟨u188, _, rfl⟩ rfl rfl ?_
  refine xald 27 ⟨u188, _, rfl⟩ rfl rfl ?_
  refine xgetD 30 (49) hH8 ⟨u188, _, rfl⟩ rfl (by decide) (by decide) rfl rfl (by decide) ?_
  refine xgetC 33 hH8 ⟨u188, _, rfl⟩ rfl (by decide) (by decide) rfl rfl (by decide) (fun z30 h30 => ?_)
  refine xild 34 ⟨u188, _, rfl⟩ rfl rfl ?_
  have Q80 : rN hp8 49 0 = ((nQ T : Nat) : Int) := Q8.1
  refine xsub 35 _ ⟨u188, _, rfl⟩ rfl rfl (by omega) (by omega) (fun z34 h34 => ?_)
  refine xald 36 ⟨u188, _, rfl⟩ rfl rfl ?_
  refine xgetD 39 (62) hH8 ⟨u188, _, rfl⟩ rfl (by decide) (by decide) rfl rfl (by decide) ?_
  refine xald 40 ⟨u188, _, rfl⟩ rfl rfl ?_
  refine xgetD 43 (8) hH8 ⟨u188, _, rfl⟩ rfl (by decide) (by decide) rfl rfl (by decide) ?_
  refine xcallC 46 (o := 62) [.ref 8] [.int _] hH8 ⟨u188, _, rfl⟩ rfl rfl (by decide) rfl (by decide) rfl ⟨rfl, rfl, rfl, rfl⟩ rfl (k_exA (o := 8) (Or.inr rfl) hH8 (exO_fr hE (fun c k hc => F8 c k (by simp; omega))) B8 hG hC (fun z43 hp43 hH43 F43 B43 h43 => ⟨_, rfl, ?_⟩))
  have Q81 : rN hp8 49 0 = ((nQ T : Nat) : Int) := Q8.1
  refine xadd 47 _ ⟨u188, _, rfl⟩ rfl rfl (by omega) (by omega) (fun z46 h46 => ?_)
  exact xret ⟨u188, _, rfl⟩ rfl (hR _ hp43 hH43 (F8.trans (F43.mono (by simp))) (by omega))
theorem k_186E {d V n q : Nat} {h : Nat → sR} {sv : Option sR} {T : sT} {ty : Nat → Int} {hp : amH} {R : xQ} {a : Int32} (hH : bHk 84 bTT hp) (hS : clS hp (V, T, ty) n h sv) (hq : q < nQ T) (ha : a.toInt = (q : Int))
    (hR : ∀ hp1, bHk 84 bTT hp1 → cF hp hp1 → clS hp1 (V, swQ T (cQ2 T q), tyQ ty) n h sv → R (.inl none) hp1) : xK (d + 6) 186 [.ref 0, .int a] hp R := by
  have hB : bdOk hp 3 V T := hS.1
  have hT := hB.2.1
  obtain ⟨g1, g2, g3, g4, g5, g6⟩ := sw_ok hT hq
  refine xin (M := am_m186) rfl rfl rfl ?_
  refine xald 1 ⟨u186, _, rfl⟩ rfl rfl ?_
  refine xgetD 4 (49) hH ⟨u186, _, rfl⟩ rfl (by decide) (by decide) rfl rfl (by decide) ?_
  refine xald 5 ⟨u186, _, rfl⟩ rfl rfl ?_
  refine xgetD 8 (3) hH ⟨u186, _, rfl⟩ rfl (by decide) (by decide) rfl rfl (by decide) ?_
  refine xild 9 ⟨u186, _, rfl⟩ rfl rfl ?_
  refine xald 10 ⟨u186, _, rfl⟩ rfl rfl ?_
  refine xgetD 13 (62) hH ⟨u186, _, rfl⟩ rfl (by decide) (by decide) rfl rfl (by decide) ?_
  refine xcallC 16 (o := 49) [.ref 3, .int _, .ref 62] [] hH ⟨u186, _, rfl⟩ rfl rfl (by decide) rfl (by decide) rfl ⟨rfl, rfl, rfl, rfl⟩ rfl (k_plQ hH hT hS.2.2.1 hS.2.1 hq rfl ha (fun hp13 hH13 F13 E13 J13 => ⟨_, rfl, ?_⟩))
  have S13 : clS hp13 (V, T, ty) n h sv := clS_8 hS (fun c k hc => F13 c k (by simp; omega))
  refine xald 17 ⟨u186, _, rfl⟩ rfl rfl ?_
  refine xgetD 20 (62) hH13 ⟨u186, _, rfl⟩ rfl (by decide) (by decide) rfl rfl (by decide) ?_
  refine xald 21 ⟨u186, _, rfl⟩ rfl rfl ?_
  refine xgetD 24 (3) hH13 ⟨u186, _, rfl⟩ rfl (by decide) (by decide) rfl rfl (by decide) ?_
  refine xcallC 27 (o := 62) [.ref 3] [] hH13 ⟨u186, _, rfl⟩ rfl rfl (by decide) rfl (by decide) rfl ⟨rfl, rfl, rfl, rfl⟩ rfl (k_exA (o := 3) (Or.inl rfl) hH13 E13 S13.1 g3 g5 (fun z24 hp24 hH24 F24 B24 h24 => ⟨_, rfl, ?_⟩))
  have B24 : bdOk hp24 3 V (swQ T (cQ2 T q)) := B24
  have t24 : ∀ i, i < 3 → rN hp24 13 i = ty i := fun i hi => (bFx_n F24 (by simp)).trans (S13.2.2.2.1 i hi)
  refine xpop 28 ⟨u186, _, rfl⟩ rfl rfl ?_
  refine xald 29 ⟨u186, _, rfl⟩ rfl rfl ?_
  refine xgetD 32 (13) hH24 ⟨u186, _, rfl⟩ rfl (by decide) (by decide) rfl rfl (by decide) ?_
  refine xdup 33 ⟨u186, _, rfl⟩ rfl rfl ?_
  refine xgetC 36 hH24 ⟨u186, _, rfl⟩ rfl (by decide) (by decide) rfl rfl (by decide) (fun z33 h33 => ?_)
  refine xcst 37 (1) ⟨u186, _, rfl⟩ rfl (by decide) (fun z36 h36 => ?_)
  refine xaddB 38 ⟨u186, _, rfl⟩ rfl (fun z37 h37 => ?_)
  have em38 := aMin z37
  have ex38 := aMax z37
  refine xputC 41 hH24 ⟨u186, _, rfl⟩ rfl (by decide) (by decide) rfl rfl (by decide) ⟨rfl, rfl⟩ (by omega) (by omega) (fun hp38 hH38 U38 => ?_)
  have s38 := U38.1
  refine xald 42 ⟨u186, _, rfl⟩ rfl rfl ?_
  refine xgetD 45 (13) hH38 ⟨u186, _, rfl⟩ rfl (by decide) (by decide) rfl rfl (by decide) ?_
  refine xdup 46 ⟨u186, _, rfl⟩ rfl rfl ?_
  refine xgetC 49 hH38 ⟨u186, _, rfl⟩ rfl (by decide) (by decide) rfl rfl (by decide) (fun z46 h46 => ?_)
  refine xald 50 ⟨u186, _, rfl⟩ rfl rfl ?_
  refine xgetD 53 (62) hH38 ⟨u186, _, rfl⟩ rfl (by decide) (by decide) rfl rfl (by decide) ?_
  refine xgetC 56 hH38 ⟨u186, _, rfl⟩ rfl (by decide) (by decide) rfl rfl (by decide) (fun z53 h53 => ?_)
  refine xaddB 57 ⟨u186, _, rfl⟩ rfl (fun z56 h56 => ?_)
  have em57 := aMin z56
  have ex57 := aMax z56
  refine xputC 60 hH38 ⟨u186, _, rfl⟩ rfl (by decide) (by decide) rfl rfl (by decide) ⟨rfl, rfl⟩ (by omega) (by omega) (fun hp57 hH57 U57 => ?_)
  have s57 := U57.1
  have s38' := U38.1
  have s57' := U57.1
  have E0 : rN hp38 62 0 = 4 := by
    rw [rU_ne U38 (by first | decide | exact (fun z => absurd z.1 (by decide)) | omega), bFx_n F24 (by simp)]
    exact E13.1
  have TY : ∀ i, i < 3 → rN hp57 13 i = tyQ ty i := fun i hi => by
    have : i = 0 ∨ i = 1 ∨ i = 2 := by omega
    rcases this with rfl | rfl | rfl
    · rw [rU_ne U57 (by first | decide | exact (fun z => absurd z.1 (by decide)) | omega), U38.1, h37, h33, h36, t24 0 (by omega)]
      rfl
    · rw [rU_ne U57 (by first | decide | exact (fun z => absurd z.1 (by decide)) | omega), rU_ne U38 (by first | decide | exact (fun z => absurd z.1 (by decide)) | omega), t24 1 (by omega)]
      rfl
    · rw [U57.1, h56, h46, rU_ne U38 (by first | decide | exact (fun z => absurd z.1 (by decide)) | omega), t24 2 (by omega), h53, E0]
      rfl
  refine xald 61 ⟨u186, _, rfl⟩ rfl rfl ?_
  refine xcallC 64 (o := 0) [] [] hH57 ⟨u186, _, rfl⟩ rfl rfl (by decide) rfl (by decide) rfl ⟨rfl, rfl, rfl, rfl⟩ rfl (k_stS hH57 (V := V) (T := swQ T (cQ2 T q)) (ty := tyQ ty) (bdOk_fr B24 ((rU_ne U57 (by first | decide | exact (fun z => absurd z.1 (by decide)) | omega)).trans (rU_ne U38 (by first | decide | exact (fun z => absurd z.1 (by decide)) | omega))) (fun _ => (rU_ne U57 (by first | decide | exact (fun z => absurd z.1 (by decide)) | omega)).trans (rU_ne U38 (by first | decide | exact (fun z => absurd z.1 (by decide)) | omega))) (fun _ => (rU_ne U57 (by first | decide | exact (fun z => absurd z.1 (by decide)) | omega)).trans (rU_ne U38 (by first | decide | exact (fun z => absurd z.1 (by decide)) | omega)))) TY (hyC_fr S13.2.2.2.2 (fun c k c1 c2 => (U57.2 c k (by omega)).trans ((U38.2 c k (by omega)).trans (F24 c k (by simp; omega))))) (fun hp61 hH61 F61 S61 => ⟨_, rfl, ?_⟩))
  exact xretV ⟨u186, _, rfl⟩ rfl (hR _ hH61 (((cF_x F13 (by simp)).trans (cF_x F24 (by simp))).trans ((cF_U U38 (by omega)).trans ((cF_U U57 (by omega)).trans (cF_x F61 (by simp))))) S61)
theorem k_136E {d V n : Nat} {h : Nat → sR} {sv : Option sR} {T : sT} {ty : Nat → Int} {hp : amH} {R : xQ} {a : Int32} (hH : bHk 84 bTT hp) (hS : clS hp (V, T, ty) n h sv)
    (hT : ∀ E, ¬ gTri (nQ T) a.toInt = 0 → exE (gTri (nQ T) a.toInt) E → R (.inr E) hp)
    (hR : ∀ (z : Int32) hp1, bHk 84 bTT hp1 → cF hp hp1 → gTri (nQ T) a.toInt = 0 → clS hp1 (V, swQ T (cQ2 T a.toInt.toNat), tyQ ty) (pM n + 1) (pH n h (V, T, ty)) sv → z.toInt = ((swV T a.toInt.toNat : Nat) : Int) → R (.inl (some (.int z))) hp1) : xK (d + 7) 136 [.ref 0, .int a] hp R := by
  have q1 : rN hp 49 0 = ((nQ T : Nat) : Int) := hS.2.2.1.1
  refine xin (M := am_m136) rfl rfl rfl ?_
  refine xald 1 ⟨u136, _, rfl⟩ rfl rfl ?_
  refine xild 2 ⟨u136, _, rfl⟩ rfl rfl ?_
  refine xcallT 5 (o := 0) [.int _] [] hH ⟨u136, _, rfl⟩ rfl rfl (by decide) rfl (by decide) rfl ⟨rfl, rfl, rfl, rfl⟩ rfl (k_rqQ hH (n := nQ T) q1 (fun g4 => Or.inl ⟨_, rfl, ?_⟩) (fun g4 => Or.inr ⟨_, rfl, rfl, hT 1 (by omega) (Or.inl ⟨g4, rfl⟩)⟩))
  have k4 := gTri_0.mp g4
  refine xald 6 ⟨u136, _, rfl⟩ rfl rfl ?_
  refine xcallC 9 (o := 0) [] [] hH ⟨u136, _, rfl⟩ rfl rfl (by decide) rfl (by decide) rfl ⟨rfl, rfl, rfl, rfl⟩ rfl (k_cmS hH hS (fun hp6 hH6 F6 S6 => ⟨_, rfl, ?_⟩))
  refine xald 10 ⟨u136, _, rfl⟩ rfl rfl ?_
  refine xild 11 ⟨u136, _, rfl⟩ rfl rfl ?_
  refine xcallC 14 (o := 0) [.int _] [] hH6 ⟨u136, _, rfl⟩ rfl rfl (by decide) rfl (by decide) rfl ⟨rfl, rfl, rfl, rfl⟩ rfl (k_186E hH6 S6 (q := a.toInt.toNat) (by show _ < nQ T; omega) (by omega) (fun hp11 hH11 F11 S11 => ⟨_, rfl, ?_⟩))
  refine xald 15 ⟨u136, _, rfl⟩ rfl rfl ?_
  refine xgetD 18 (49) hH11 ⟨u136, _, rfl⟩ rfl (by decide) (by decide) rfl rfl (by decide) ?_
  refine xgetC 21 hH11 ⟨u136, _, rfl⟩ rfl (by decide) (by decide) rfl rfl (by decide) (fun z18 h18 => ?_)
  exact xret ⟨u136, _, rfl⟩ rfl (hR _ hp11 hH11 ((cF_hy F6).trans F11) g4 S11 (by rw [h18]; exact S11.2.2.1.1))
theorem k_187E {d V n q : Nat} {h : Nat → sR} {sv : Option sR} {T : sT} {ty : Nat → Int} {hp : amH} {R : xQ} {a : Int32} (hH : bHk 84 bTT hp) (hS : clS hp (V, T, ty) n h sv) (hq : q < nQ T) (ha : a.toInt = (q : Int))
    (hR : ∀ (z : Int32) hp1, bHk 84 bTT hp1 → cF hp hp1 → clS hp1 (V, T, ty) n h sv → z.toInt = ((swV T q : Nat) : Int) → R (.inl (some (.int z))) hp1) : xK (d + 5) 187 [.ref 0, .int a] hp R := by
  have hB : bdOk hp 3 V T := hS.1
  have hT := hB.2.1
  obtain ⟨g1, g2, g3, g4, g5, g6⟩ := sw_ok hT hq
  obtain ⟨n1, n2, n3, n4, n5, n6, n7⟩ := qd_at hT hS.2.2.1 hq rfl
  refine xin (M := am_m187) rfl rfl rfl ?_
  refine xald 1 ⟨u187, _, rfl⟩ rfl rfl ?_
  refine xgetD 4 (49) hH ⟨u187, _, rfl⟩ rfl (by decide) (by decide) rfl rfl (by decide) ?_
  refine xald 5 ⟨u187, _, rfl⟩ rfl rfl ?_
  refine xgetD 8 (3) hH ⟨u187, _, rfl⟩ rfl (by decide) (by decide) rfl rfl (by decide) ?_
  refine xild 9 ⟨u187, _, rfl⟩ rfl rfl ?_
  refine xald 10 ⟨u187, _, rfl⟩ rfl rfl ?_
  refine xgetD 13 (62) hH ⟨u187, _, rfl⟩ rfl (by decide) (by decide) rfl rfl (by decide) ?_
  refine xcallC 16 (o := 49) [.ref 3, .int _, .ref 62] [] hH ⟨u187, _, rfl⟩ rfl rfl (by decide) rfl (by decide) rfl ⟨rfl, rfl, rfl, rfl⟩ rfl (k_plQ hH hT hS.2.2.1 hS.2.1 hq rfl ha (fun hp13 hH13 F13 E13 J13 => ⟨_, rfl, ?_⟩))
  have S13 : clS hp13 (V, T, ty) n h sv := clS_8 hS (fun c k hc => F13 c k (by simp; omega))
  refine xald 17 ⟨u187, _, rfl⟩ rfl rfl ?_
  refine xcallC 20 (o := 0) [] [] hH13 ⟨u187, _, rfl⟩ rfl rfl (by decide) rfl (by decide) rfl ⟨rfl, rfl, rfl, rfl⟩ rfl (k_188E (D := qL T (cQ2 T q)) (C := qC T (cQ2 T q)) hH13 S13 n7 E13 J13 (fun u => jL_test u n6) g3 g5 (fun z17 hp17 hH17 F17 h17 => ⟨_, rfl, ?_⟩))
  exact xret ⟨u187, _, rfl⟩ rfl (hR _ hp17 hH17 ((cF_x F13 (by simp)).trans (cF_x F17 (by simp))) (clS_8 S13 (fun c k hc => F17 c k (by simp; omega))) h17)
theorem l138 {d V n : Nat} {h : Nat → sR} {sv : Option sR} {T : sT} {ty : Nat → Int} {hp0 : amH} {R : xQ} {a : Int32} {most : Bool} (hm : most = true ↔ ¬ a.toInt = 0) (hT : sOk V T)
    (hR : ∀ (z : Int32) hp1, bHk 84 bTT hp1 → cF hp0 hp1 → clS hp1 (V, T, ty) n h sv → z.toInt = (bsF most (swV T) (nQ T)).1 → R (.inl (some (.int z))) hp1) :
    ∀ (jj q : Nat) (w v wt : Int32) (v5 : Option Value) (hp : amH), wt.toInt = (q : Int) → q + jj = nQ T → w.toInt = (bsF most (swV T) q).1 → v.toInt = (bsF most (swV T) q).2 → bHk 84 bTT hp → cF hp0 hp → clS hp (V, T, ty) n h sv → xV (d + 5) am_m138 7 [some (.ref 0), some (.int a), some (.int w), some (.int v), some (.int wt), v5] [] hp R := by
  have h105 : nQ T ≤ 105 := q105 hT
  intro jj
  induction jj with
  | zero =>
    intro q w v wt v5 hp hwt hj hw hv hH hF hS
    have et : q = nQ T := by omega
    have q1 : rN hp 49 0 = ((nQ T : Nat) : Int) := hS.2.2.1.1
    rw [et] at hw
    refine xild2 9 ⟨u138, _, rfl⟩ rfl rfl ?_
    refine xald 10 ⟨u138, _, rfl⟩ rfl rfl ?_
    refine xgetD 13 (49) hH ⟨u138, _, rfl⟩ rfl (by decide) (by decide) rfl rfl (by decide) ?_
    refine xgetC 16 hH ⟨u138, _, rfl⟩ rfl (by decide) (by decide) rfl rfl (by decide) (fun z13 h13 => ?_)
    refine xcmp_ge 19 ⟨u138, _, rfl⟩ rfl (fun c16 => ?_) (fun c16 => ?_)
    · refine xild 79 ⟨u138, _, rfl⟩ rfl rfl ?_
      exact xret ⟨u138, _, rfl⟩ rfl (hR _ hp hH hF hS hw)
    · omega
  | succ jj ih =>
    intro q w v wt v5 hp hwt hj hw hv hH hF hS
    have hq : q < nQ T := by omega
    have q1 : rN hp 49 0 = ((nQ T : Nat) : Int) := hS.2.2.1.1
    obtain ⟨g1, g2, g3, g4, g5, g6⟩ := sw_ok hT hq
    obtain ⟨n1, n2, n3, n4, n5, n6, n7⟩ := qd_at hT hS.2.2.1 hq rfl
    have bs : bsF most (swV T) (q + 1) = if (bsF most (swV T) q).1 = -1 ∨ (if most = true then (bsF most (swV T) q).2 < (swV T q : Int) else (swV T q : Int) < (bsF most (swV T) q).2) then ((q : Int), (swV T q : Int)) else bsF most (swV T) q := rfl
    refine xild2 9 ⟨u138, _, rfl⟩ rfl rfl ?_
    refine xald 10 ⟨u138, _, rfl⟩ rfl rfl ?_
    refine xgetD 13 (49) hH ⟨u138, _, rfl⟩ rfl (by decide) (by decide) rfl rfl (by decide) ?_
    refine xgetC 16 hH ⟨u138, _, rfl⟩ rfl (by decide) (by decide) rfl rfl (by decide) (fun z13 h13 => ?_)
    refine xcmp_ge 19 ⟨u138, _, rfl⟩ rfl (fun c16 => ?_) (fun c16 => ?_)
    · omega
    · refine xald 20 ⟨u138, _, rfl⟩ rfl rfl ?_
      refine xgetD 23 (49) hH ⟨u138, _, rfl⟩ rfl (by decide) (by decide) rfl rfl (by decide) ?_
      refine xald 24 ⟨u138, _, rfl⟩ rfl rfl ?_
      refine xgetD 27 (3) hH ⟨u138, _, rfl⟩ rfl (by decide) (by decide) rfl rfl (by decide) ?_
      refine xild2 29 ⟨u138, _, rfl⟩ rfl rfl ?_
      refine xald 30 ⟨u138, _, rfl⟩ rfl rfl ?_
      refine xgetD 33 (62) hH ⟨u138, _, rfl⟩ rfl (by decide) (by decide) rfl rfl (by decide) ?_
      refine xcallC 36 (o := 49) [.ref 3, .int _, .ref 62] [] hH ⟨u138, _, rfl⟩ rfl rfl (by decide) rfl (by decide) rfl ⟨rfl, rfl, rfl, rfl⟩ rfl (k_plQ hH hT hS.2.2.1 hS.2.1 hq rfl hwt (fun hp33 hH33 F33 E33 J33 => ⟨_, rfl, ?_⟩))
      have S33 : clS hp33 (V, T, ty) n h sv := clS_8 hS (fun c k hc => F33 c k (by simp; omega))
      refine xald 37 ⟨u138, _, rfl⟩ rfl rfl ?_
      refine xcallC 40 (o := 0) [] [] hH33 ⟨u138, _, rfl⟩ rfl rfl (by decide) rfl (by decide) rfl ⟨rfl, rfl, rfl, rfl⟩ rfl (k_188E (D := qL T (cQ2 T q)) (C := qC T (cQ2 T q)) hH33 S33 n7 E33 J33 (fun u => jL_test u n6) g3 g5 (fun z37 hp37 hH37 F37 h37 => ⟨_, rfl, ?_⟩))
      have S37 := clS_8 S33 (fun c k hc => F37 c k (by simp; omega))
      have F37c : cF hp0 hp37 := hF.trans ((cF_x F33 (by simp)).trans (cF_x F37 (by simp)))
      have h37 : z37.toInt = ((swV T q : Nat) : Int) := h37
      refine xist2 42 ⟨u138, _, rfl⟩ rfl rfl ?_
      refine xild 43 ⟨u138, _, rfl⟩ rfl rfl ?_
      refine xcst 44 (-1) ⟨u138, _, rfl⟩ rfl (by decide) (fun z43 h43 => ?_)
      refine xcmp_eq 47 ⟨u138, _, rfl⟩ rfl (fun c44 => ?_) (fun c44 => ?_)
      · rw [if_pos (Or.inl (by omega))] at bs
        refine xild2 68 ⟨u138, _, rfl⟩ rfl rfl ?_
        refine xist 69 ⟨u138, _, rfl⟩ rfl rfl ?_
        refine xild2 71 ⟨u138, _, rfl⟩ rfl rfl ?_
        refine xist 72 ⟨u138, _, rfl⟩ rfl rfl ?_
        refine xinc 75 (1) ⟨u138, _, rfl⟩ rfl rfl rfl (by decide) (by omega) (by omega) (fun z72 h72 => ?_)
        refine xgoto ⟨u138, _, rfl⟩ ?_
        exact ih (q + 1) wt z37 z72 _ hp37 (by omega) (by omega) (by rw [bs]; exact hwt) (by rw [bs]; exact h37) hH37 F37c S37
      · refine xild 48 ⟨u138, _, rfl⟩ rfl rfl ?_
        refine xif_eq 51 ⟨u138, _, rfl⟩ rfl (fun c48 => ?_) (fun c48 => ?_)
        · refine xild2 62 ⟨u138, _, rfl⟩ rfl rfl ?_
          refine xild 63 ⟨u138, _, rfl⟩ rfl rfl ?_
          refine xcmp_ge 66 ⟨u138, _, rfl⟩ rfl (fun c63 => ?_) (fun c63 => ?_)
          · have nb : ¬ ((bsF most (swV T) q).1 = -1 ∨ (if most = true then (bsF most (swV T) q).2 < (swV T q : Int) else (swV T q : Int) < (bsF most (swV T) q).2)) := by
              rw [if_neg (fun k => hm.mp k (by omega))]
              omega
            rw [if_neg nb] at bs
            refine xinc 75 (1) ⟨u138, _, rfl⟩ rfl rfl rfl (by decide) (by omega) (by omega) (fun z72 h72 => ?_)
            refine xgoto ⟨u138, _, rfl⟩ ?_
            exact ih (q + 1) w v z72 _ hp37 (by omega) (by omega) (by rw [bs]; exact hw) (by rw [bs]; exact hv) hH37 F37c S37
          · rw [if_pos (Or.inr (by rw [if_neg (fun k => hm.mp k (by omega))]; omega))] at bs
            refine xild2 68 ⟨u138, _, rfl⟩ rfl rfl ?_
            refine xist 69 ⟨u138, _, rfl⟩ rfl rfl ?_
            refine xild2 71 ⟨u138, _, rfl⟩ rfl rfl ?_
            refine xist 72 ⟨u138, _, rfl⟩ rfl rfl ?_
            refine xinc 75 (1) ⟨u138, _, rfl⟩ rfl rfl rfl (by decide) (by omega) (by omega) (fun z72 h72 => ?_)
            refine xgoto ⟨u138, _, rfl⟩ ?_
            exact ih (q + 1) wt z37 z72 _ hp37 (by omega) (by omega) (by rw [bs]; exact hwt) (by rw [bs]; exact h37) hH37 F37c S37
        · refine xild2 53 ⟨u138, _, rfl⟩ rfl rfl ?_
          refine xild 54 ⟨u138, _, rfl⟩ rfl rfl ?_
          refine xcmp_le 57 ⟨u138, _, rfl⟩ rfl (fun c54 => ?_) (fun c54 => ?_)
          · have nb : ¬ ((bsF most (swV T) q).1 = -1 ∨ (if most = true then (bsF most (swV T) q).2 < (swV T q : Int) else (swV T q : Int) < (bsF most (swV T) q).2)) := by
              rw [if_pos (hm.mpr (by omega))]
              omega
            rw [if_neg nb] at bs
            refine xinc 75 (1) ⟨u138, _, rfl⟩ rfl rfl rfl (by decide) (by omega) (by omega) (fun z72 h72 => ?_)
            refine xgoto ⟨u138, _, rfl⟩ ?_
            exact ih (q + 1) w v z72 _ hp37 (by omega) (by omega) (by rw [bs]; exact hw) (by rw [bs]; exact hv) hH37 F37c S37
          · rw [if_pos (Or.inr (by rw [if_pos (hm.mpr (by omega))]; omega))] at bs
            refine xgoto ⟨u138, _, rfl⟩ ?_
            refine xild2 68 ⟨u138, _, rfl⟩ rfl rfl ?_
            refine xist 69 ⟨u138, _, rfl⟩ rfl rfl ?_
            refine xild2 71 ⟨u138, _, rfl⟩ rfl rfl ?_
            refine xist 72 ⟨u138, _, rfl⟩ rfl rfl ?_
            refine xinc 75 (1) ⟨u138, _, rfl⟩ rfl rfl rfl (by decide) (by omega) (by omega) (fun z72 h72 => ?_)
            refine xgoto ⟨u138, _, rfl⟩ ?_
            exact ih (q + 1) wt z37 z72 _ hp37 (by omega) (by omega) (by rw [bs]; exact hwt) (by rw [bs]; exact h37) hH37 F37c S37
theorem k_138E {d V n : Nat} {h : Nat → sR} {sv : Option sR} {T : sT} {ty : Nat → Int} {hp : amH} {R : xQ} {a : Int32} {most : Bool} (hm : most = true ↔ ¬ a.toInt = 0) (hH : bHk 84 bTT hp) (hS : clS hp (V, T, ty) n h sv)
    (hR : ∀ (z : Int32) hp1, bHk 84 bTT hp1 → cF hp hp1 → clS hp1 (V, T, ty) n h sv → z.toInt = (bsF most (swV T) (nQ T)).1 → R (.inl (some (.int z))) hp1) : xK (d + 5) 138 [.ref 0, .int a] hp R := by
  refine xin (M := am_m138) rfl rfl rfl ?_
  refine xcst 1 (-1) ⟨u138, _, rfl⟩ rfl (by decide) (fun z0 h0 => ?_)
  refine xist 2 ⟨u138, _, rfl⟩ rfl rfl ?_
  refine xcst 3 (0) ⟨u138, _, rfl⟩ rfl (by decide) (fun z2 h2 => ?_)
  refine xist 4 ⟨u138, _, rfl⟩ rfl rfl ?_
  refine xcst 5 (0) ⟨u138, _, rfl⟩ rfl (by decide) (fun z4 h4 => ?_)
  refine xist2 7 ⟨u138, _, rfl⟩ rfl rfl ?_
  refine xpad 1 ?_
  exact l138 (V := V) (T := T) (ty := ty) hm hS.1.2.1 hR (nQ T) 0 _ _ _ _ hp h4 (by omega) h0 h2 hH cF.refl hS
noncomputable def gTm (t : Int) : Int := if 1 ≤ t ∧ t ≤ 20 then 0 else 1
/-- the class descends -/
theorem l139 {d V n m : Nat} {h : Nat → sR} {sv : Option sR} {T0 : sT} {ty0 : Nat → Int} {hp0 : amH} {R : xQ} {a : Int32} (ha : a.toInt = (m : Int)) (hm : m ≤ 20)
    (hR : ∀ (z : Int32) hp1, bHk 84 bTT hp1 → cF hp0 hp1 → clS hp1 (V, (dsF m T0 ty0 0).1, (dsF m T0 ty0 0).2.1) n h sv → z.toInt = (((dsF m T0 ty0 0).2.2 : Nat) : Int) → R (.inl (some (.int z))) hp1) :
    ∀ (jj k : Nat) (T : sT) (ty : Nat → Int) (w : Int32) (v3 : Option Value) (hp : amH), w.toInt = (k : Int) → k + jj = m → dsF jj T ty k = dsF m T0 ty0 0 → bHk 84 bTT hp → cF hp0 hp → clS hp (V, T, ty) n h sv → xV (d + 7) am_m139 28 [some (.ref 0), some (.int a), some (.int w), v3] [] hp R := by
  intro jj
  induction jj with
  | zero =>
    intro k T ty w v3 hp hw hj he hH hF hS
    have he : (T, ty, k) = dsF m T0 ty0 0 := he
    refine xild 29 ⟨u139, _, rfl⟩ rfl rfl ?_
    refine xild 30 ⟨u139, _, rfl⟩ rfl rfl ?_
    refine xcmp_ge 33 ⟨u139, _, rfl⟩ rfl (fun c30 => ?_) (fun c30 => ?_)
    · refine xild 74 ⟨u139, _, rfl⟩ rfl rfl ?_
      exact xret ⟨u139, _, rfl⟩ rfl (hR _ hp hH hF (by rw [← he]; exact hS) (by rw [← he]; exact hw))
    · omega
  | succ jj ih =>
    intro k T ty w v3 hp hw hj he hH hF hS
    have hT := hS.1.2.1
    have ds : dsF (jj + 1) T ty k = if (bsF false (swV T) (nQ T)).1 = -1 ∨ nQ T ≤ swV T (bsF false (swV T) (nQ T)).1.toNat then (T, ty, k) else dsF jj (swQ T (cQ2 T (bsF false (swV T) (nQ T)).1.toNat)) (tyQ ty) (k + 1) := rfl
    have bi : (bsF false (swV T) (nQ T)).1 = -1 ∨ (0 ≤ (bsF false (swV T) (nQ T)).1 ∧ (bsF false (swV T) (nQ T)).1 < (nQ T : Int)) := by
      rcases bsF_in false (swV T) (nQ T) with ⟨e, -⟩ | ⟨b, b1, b2, -⟩
      · exact Or.inl e
      · exact Or.inr (by omega)
    obtain ⟨β, hβ⟩ : ∃ β : Int, (bsF false (swV T) (nQ T)).1 = β := ⟨_, rfl⟩
    rw [hβ] at ds bi
    refine xild 29 ⟨u139, _, rfl⟩ rfl rfl ?_
    refine xild 30 ⟨u139, _, rfl⟩ rfl rfl ?_
    refine xcmp_ge 33 ⟨u139, _, rfl⟩ rfl (fun c30 => ?_) (fun c30 => ?_)
    · omega
    · refine xald 34 ⟨u139, _, rfl⟩ rfl rfl ?_
      refine xcst 35 (0) ⟨u139, _, rfl⟩ rfl (by decide) (fun z34 h34 => ?_)
      refine xcallC 38 (o := 0) [.int _] [] hH ⟨u139, _, rfl⟩ rfl rfl (by decide) rfl (by decide) rfl ⟨rfl, rfl, rfl, rfl⟩ rfl (k_138E (most := false) ⟨fun z => (by cases z), fun z => absurd h34 z⟩ hH hS (fun z35 hp35 hH35 F35 S35 h35 => ⟨_, rfl, ?_⟩))
      have h35 := h35.trans hβ
      refine xist 39 ⟨u139, _, rfl⟩ rfl rfl ?_
      refine xild 40 ⟨u139, _, rfl⟩ rfl rfl ?_
      refine xcst 41 (-1) ⟨u139, _, rfl⟩ rfl (by decide) (fun z40 h40 => ?_)
      refine xcmp_eq 44 ⟨u139, _, rfl⟩ rfl (fun c41 => ?_) (fun c41 => ?_)
      · rw [ds, if_pos (Or.inl (by omega))] at he
        refine xild 74 ⟨u139, _, rfl⟩ rfl rfl ?_
        exact xret ⟨u139, _, rfl⟩ rfl (hR _ hp35 hH35 (hF.trans F35) (by rw [← he]; exact S35) (by rw [← he]; exact hw))
      · refine xald 45 ⟨u139, _, rfl⟩ rfl rfl ?_
        refine xild 46 ⟨u139, _, rfl⟩ rfl rfl ?_
        refine xcallC 49 (o := 0) [.int _] [] hH35 ⟨u139, _, rfl⟩ rfl rfl (by decide) rfl (by decide) rfl ⟨rfl, rfl, rfl, rfl⟩ rfl (k_187E hH35 S35 (q := β.toNat) (by omega) (by omega) (fun z46 hp46 hH46 F46 S46 h46 => ⟨_, rfl, ?_⟩))
        have q46 : rN hp46 49 0 = ((nQ T : Nat) : Int) := S46.2.2.1.1
        refine xald 50 ⟨u139, _, rfl⟩ rfl rfl ?_
        refine xgetD 53 (49) hH46 ⟨u139, _, rfl⟩ rfl (by decide) (by decide) rfl rfl (by decide) ?_
        refine xgetC 56 hH46 ⟨u139, _, rfl⟩ rfl (by decide) (by decide) rfl rfl (by decide) (fun z53 h53 => ?_)
        refine xcmp_lt 59 ⟨u139, _, rfl⟩ rfl (fun c56 => ?_) (fun c56 => ?_)
        · rw [ds, if_neg (by omega)] at he
          refine xald 63 ⟨u139, _, rfl⟩ rfl rfl ?_
          refine xild 64 ⟨u139, _, rfl⟩ rfl rfl ?_
          refine xcallC 67 (o := 0) [.int _] [] hH46 ⟨u139, _, rfl⟩ rfl rfl (by decide) rfl (by decide) rfl ⟨rfl, rfl, rfl, rfl⟩ rfl (k_186E hH46 S46 (q := β.toNat) (by omega) (by omega) (fun hp64 hH64 F64 S64 => ⟨_, rfl, ?_⟩))
          refine xinc 70 (1) ⟨u139, _, rfl⟩ rfl rfl rfl (by decide) (by omega) (by omega) (fun z67 h67 => ?_)
          refine xgoto ⟨u139, _, rfl⟩ ?_
          exact ih (k + 1) _ _ z67 _ hp64 (by omega) (by omega) he hH64 (hF.trans (F35.trans (F46.trans F64))) S64
        · rw [ds, if_pos (Or.inr (by omega))] at he
          refine xgoto ⟨u139, _, rfl⟩ ?_
          refine xild 74 ⟨u139, _, rfl⟩ rfl rfl ?_
          exact xret ⟨u139, _, rfl⟩ rfl (hR _ hp46 hH46 (hF.trans (F35.trans F46)) (by rw [← he]; exact S46) (by rw [← he]; exact hw))
theorem k_139E {d V n : Nat} {h : Nat → sR} {sv : Option sR} {T : sT} {ty : Nat → Int} {hp : amH} {R : xQ} {a : Int32} (hH : bHk 84 bTT hp) (hS : clS hp (V, T, ty) n h sv)
    (hT : gTm a.toInt = 1 → R (.inr 0) hp)
    (hR : ∀ (z : Int32) hp1, bHk 84 bTT hp1 → cF hp hp1 → gTm a.toInt = 0 → clS hp1 (V, (dsF a.toInt.toNat T ty 0).1, (dsF a.toInt.toNat T ty 0).2.1) (pM n + 1) (pH n h (V, T, ty)) sv → z.toInt = (((dsF a.toInt.toNat T ty 0).2.2 : Nat) : Int) → R (.inl (some (.int z))) hp1) : xK (d + 7) 139 [.ref 0, .int a] hp R := by
  refine xin (M := am_m139) rfl rfl rfl ?_
  refine xild 1 ⟨u139, _, rfl⟩ rfl rfl ?_
  refine xcst 2 (1) ⟨u139, _, rfl⟩ rfl (by decide) (fun z1 h1 => ?_)
  refine xcmp_lt 5 ⟨u139, _, rfl⟩ rfl (fun c2 => ?_) (fun c2 => ?_)
  · exact xthr ⟨u139, _, rfl⟩ (by decide) rfl (by decide) (hT (by unfold gTm; rw [if_neg (by omega)]))
  · refine xild 6 ⟨u139, _, rfl⟩ rfl rfl ?_
    refine xbip 8 (20) ⟨u139, _, rfl⟩ rfl (by decide) (fun z6 h6 => ?_)
    refine xcmp_le 11 ⟨u139, _, rfl⟩ rfl (fun c8 => ?_) (fun c8 => ?_)
    · refine xald 23 ⟨u139, _, rfl⟩ rfl rfl ?_
      refine xcallC 26 (o := 0) [] [] hH ⟨u139, _, rfl⟩ rfl rfl (by decide) rfl (by decide) rfl ⟨rfl, rfl, rfl, rfl⟩ rfl (k_cmS hH hS (fun hp23 hH23 F23 S23 => ⟨_, rfl, ?_⟩))
      have g0 : gTm a.toInt = 0 := by unfold gTm; rw [if_pos (by omega)]
      refine xcst 27 (0) ⟨u139, _, rfl⟩ rfl (by decide) (fun z26 h26 => ?_)
      refine xist 28 ⟨u139, _, rfl⟩ rfl rfl ?_
      refine xpad 1 ?_
      exact l139 (m := a.toInt.toNat) (by omega) (by omega) (fun z hp1 k1 k2 k3 k4 => hR z hp1 k1 ((cF_hy F23).trans k2) g0 k3 k4) a.toInt.toNat 0 T ty _ _ hp23 h26 (by omega) rfl hH23 cF.refl S23
    · exact xthr ⟨u139, _, rfl⟩ (by decide) rfl (by decide) (hT (by unfold gTm; rw [if_neg (by omega)]))
end
/-! ##### 19.m.087.39a ##### -/
section
/-! ===== opposites (pure) ===== -/
noncomputable def lfL (p : Nat) : Nat → List Nat → Nat
  | l, [] => l
  | l, m :: r => lfL p (if m.testBit p = true then ndif l m else l) r
theorem lfL_test {p : Nat} : ∀ {M : List Nat} {l : Nat} (v : Nat), (lfL p l M).testBit v = true ↔ (l.testBit v = true ∧ ∀ m, m ∈ M → m.testBit p = true → ¬ m.testBit v = true)
  | [], l, v => ⟨fun h => ⟨h, fun m hm => absurd hm (by simp)⟩, fun h => h.1⟩
  | m :: r, l, v => by
    have i := lfL_test (p := p) (M := r) (l := if m.testBit p = true then ndif l m else l) v
    show (lfL p (if m.testBit p = true then ndif l m else l) r).testBit v = true ↔ _
    rw [i]
    by_cases g : m.testBit p = true
    · rw [if_pos g, nd_test, Bool.and_eq_true, Bool.not_eq_true']
      constructor
      · rintro ⟨⟨h1, h2⟩, h3⟩
        refine ⟨h1, fun k hk => ?_⟩
        rcases List.mem_cons.mp hk with rfl | hk
        · intro _ z
          rw [z] at h2
          cases h2
        · exact h3 k hk
      · rintro ⟨h1, h2⟩
        refine ⟨⟨h1, ?_⟩, fun k hk => h2 k (List.mem_cons_of_mem _ hk)⟩
        have := h2 m List.mem_cons_self g
        cases e : m.testBit v
        · rfl
        · exact absurd e this
    · rw [if_neg g]
      constructor
      · rintro ⟨h1, h3⟩
        refine ⟨h1, fun k hk => ?_⟩
        rcases List.mem_cons.mp hk with rfl | hk
        · exact fun z => absurd z g
        · exact h3 k hk
      · rintro ⟨h1, h2⟩
        exact ⟨h1, fun k hk => h2 k (List.mem_cons_of_mem _ hk)⟩
/-- what is left of a quadrilateral's points beside one: its opposite alone -/
noncomputable def opL (T : sT) (n u : Nat) : Nat := lfL u (ndif (qU T n) (2 ^ u)) (qG T n)
noncomputable def o6 (p a b c d e u : Nat) : Nat := if u = p then e else if u = a then d else if u = b then c else if u = c then b else if u = d then a else p
theorem o6_is {p a b c d e : Nat} (h : sxP p a b c d e) : o6 p a b c d e p = e ∧ o6 p a b c d e a = d ∧ o6 p a b c d e b = c ∧ o6 p a b c d e c = b ∧ o6 p a b c d e d = a ∧ o6 p a b c d e e = p := by
  obtain ⟨⟨k1, k2, k3, k4, k5⟩, ⟨k6, k7, k8, k9⟩, ⟨k10, k11, k12⟩, ⟨k13, k14⟩, k15⟩ := h
  unfold o6
  refine ⟨by rw [if_pos rfl], ?_, ?_, ?_, ?_, ?_⟩
  · rw [if_neg (by omega), if_pos rfl]
  · rw [if_neg (by omega), if_neg (by omega), if_pos rfl]
  · rw [if_neg (by omega), if_neg (by omega), if_neg (by omega), if_pos rfl]
  · rw [if_neg (by omega), if_neg (by omega), if_neg (by omega), if_neg (by omega), if_pos rfl]
  · rw [if_neg (by omega), if_neg (by omega), if_neg (by omega), if_neg (by omega), if_neg (by omega)]
theorem m4_ev {P : Nat → Prop} {a b c d : Nat} : (∀ m, m ∈ [a, b, c, d] → P m) ↔ (P a ∧ P b ∧ P c ∧ P d) := by
  constructor
  · intro h
    exact ⟨h a (by simp), h b (by simp), h c (by simp), h d (by simp)⟩
  · rintro ⟨h1, h2, h3, h4⟩ m hm
    simp only [List.mem_cons, List.not_mem_nil, or_false] at hm
    rcases hm with rfl | rfl | rfl | rfl <;> assumption
theorem opL_6 {V : Nat} {T : sT} {n : Nat} {p a b c d e : Nat} (h6 : sxP p a b c d e) (eG : qG T n = [m3 p a b, m3 p c d, m3 a c e, m3 b d e]) (hU : ∀ u, (qU T n).testBit u = true ↔ (u = p ∨ u = a ∨ u = b ∨ u = c ∨ u = d ∨ u = e)) {u : Nat} (hu : (qU T n).testBit u = true) : opL T n u = 2 ^ o6 p a b c d e u := by
  have o := o6_is h6
  obtain ⟨⟨k1, k2, k3, k4, k5⟩, ⟨k6, k7, k8, k9⟩, ⟨k10, k11, k12⟩, ⟨k13, k14⟩, k15⟩ := h6
  obtain ⟨o1, o2, o3, o4, o5, o6'⟩ := o
  apply Nat.eq_of_testBit_eq
  intro v
  have key : (opL T n u).testBit v = true ↔ o6 p a b c d e u = v := by
    unfold opL
    rw [lfL_test, eG, m4_ev, nd_test, Bool.and_eq_true, hU v, Nat.testBit_two_pow, Bool.not_eq_true', decide_eq_false_iff_not]
    simp only [m3_test, decide_eq_true_eq]
    constructor
    · rintro ⟨⟨hv, hn⟩, q1, q2, q3, q4⟩
      rcases (hU u).mp hu with rfl | rfl | rfl | rfl | rfl | rfl <;> rcases hv with rfl | rfl | rfl | rfl | rfl | rfl <;> first | exact o1 | exact o2 | exact o3 | exact o4 | exact o5 | exact o6' | exact absurd rfl hn | exact (q1 (by simp) (by simp)).elim | exact (q2 (by simp) (by simp)).elim | exact (q3 (by simp) (by simp)).elim | exact (q4 (by simp) (by simp)).elim
    · intro q
      rw [← q]
      rcases (hU u).mp hu with rfl | rfl | rfl | rfl | rfl | rfl
      · rw [o1]; simp [k1, k2, k3, k4, k5, k6, k7, k8, k9, k10, k11, k12, k13, k14, k15, Ne.symm k1, Ne.symm k2, Ne.symm k3, Ne.symm k4, Ne.symm k5, Ne.symm k6, Ne.symm k7, Ne.symm k8, Ne.symm k9, Ne.symm k10, Ne.symm k11, Ne.symm k12, Ne.symm k13, Ne.symm k14, Ne.symm k15]
      · rw [o2]; simp [k1, k2, k3, k4, k5, k6, k7, k8, k9, k10, k11, k12, k13, k14, k15, Ne.symm k1, Ne.symm k2, Ne.symm k3, Ne.symm k4, Ne.symm k5, Ne.symm k6, Ne.symm k7, Ne.symm k8, Ne.symm k9, Ne.symm k10, Ne.symm k11, Ne.symm k12, Ne.symm k13, Ne.symm k14, Ne.symm k15]
      · rw [o3]; simp [k1, k2, k3, k4, k5, k6, k7, k8, k9, k10, k11, k12, k13, k14, k15, Ne.symm k1, Ne.symm k2, Ne.symm k3, Ne.symm k4, Ne.symm k5, Ne.symm k6, Ne.symm k7, Ne.symm k8, Ne.symm k9, Ne.symm k10, Ne.symm k11, Ne.symm k12, Ne.symm k13, Ne.symm k14, Ne.symm k15]
      · rw [o4]; simp [k1, k2, k3, k4, k5, k6, k7, k8, k9, k10, k11, k12, k13, k14, k15, Ne.symm k1, Ne.symm k2, Ne.symm k3, Ne.symm k4, Ne.symm k5, Ne.symm k6, Ne.symm k7, Ne.symm k8, Ne.symm k9, Ne.symm k10, Ne.symm k11, Ne.symm k12, Ne.symm k13, Ne.symm k14, Ne.symm k15]
      · rw [o5]; simp [k1, k2, k3, k4, k5, k6, k7, k8, k9, k10, k11, k12, k13, k14, k15, Ne.symm k1, Ne.symm k2, Ne.symm k3, Ne.symm k4, Ne.symm k5, Ne.symm k6, Ne.symm k7, Ne.symm k8, Ne.symm k9, Ne.symm k10, Ne.symm k11, Ne.symm k12, Ne.symm k13, Ne.symm k14, Ne.symm k15]
      · rw [o6']; simp [k1, k2, k3, k4, k5, k6, k7, k8, k9, k10, k11, k12, k13, k14, k15, Ne.symm k1, Ne.symm k2, Ne.symm k3, Ne.symm k4, Ne.symm k5, Ne.symm k6, Ne.symm k7, Ne.symm k8, Ne.symm k9, Ne.symm k10, Ne.symm k11, Ne.symm k12, Ne.symm k13, Ne.symm k14, Ne.symm k15]
  rw [Nat.testBit_two_pow, Bool.eq_iff_iff, key, decide_eq_true_iff]
/-- the opposite of a point of a quadrilateral -/
noncomputable def oppQ (T : sT) (n u : Nat) : Nat := Nat.log2 (opL T n u)
/-- a triple of a quadrilateral and what comes in its place -/
theorem opp_3 {V : Nat} {T : sT} (hT : sOk V T) {n : Nat} (hn : n < 42875) (h : qdB T n = true) {m x y z : Nat} (hm : m ∈ qG T n) (em : m = m3 x y z) (hxy : ¬ x = y) (hyz : ¬ y = z) (hxz : ¬ x = z) : (∀ u, u = x ∨ u = y ∨ u = z → (qU T n).testBit u = true ∧ opL T n u = 2 ^ oppQ T n u ∧ oppQ T n u < V) ∧ ndif (qU T n) m = m3 (oppQ T n x) (oppQ T n y) (oppQ T n z) ∧ ¬ oppQ T n x = oppQ T n y ∧ ¬ oppQ T n y = oppQ T n z ∧ ¬ oppQ T n x = oppQ T n z := by
  obtain ⟨p, a, b, c, d, e, ⟨lp, la, lb, lc, ld, le⟩, h6, eG, eC, hU, -⟩ := qd_all hT hn h
  have ho : ∀ u, (qU T n).testBit u = true → oppQ T n u = o6 p a b c d e u := fun u hu => by
    unfold oppQ
    rw [opL_6 (V := V) h6 eG hU hu, Nat.log2_two_pow]
  obtain ⟨o1, o2, o3, o4, o5, o6'⟩ := o6_is h6
  obtain ⟨⟨k1, k2, k3, k4, k5⟩, ⟨k6, k7, k8, k9⟩, ⟨k10, k11, k12⟩, ⟨k13, k14⟩, k15⟩ := id h6
  have hmem : ∀ u, (u = x ∨ u = y ∨ u = z) → (qU T n).testBit u = true := fun u hu => by
    have g : m.testBit u = true := by rw [em, m3_test]; exact decide_eq_true hu
    rw [eG] at hm
    simp only [List.mem_cons, List.not_mem_nil, or_false] at hm
    rw [hU u]
    rcases hm with rfl | rfl | rfl | rfl <;> (rw [m3_test] at g; rcases of_decide_eq_true g with g | g | g <;> simp [g])
  have hlt : ∀ u, (qU T n).testBit u = true → o6 p a b c d e u < V := fun u hu => by
    rcases (hU u).mp hu with rfl | rfl | rfl | rfl | rfl | rfl
    · rw [o1]; exact le
    · rw [o2]; exact ld
    · rw [o3]; exact lc
    · rw [o4]; exact lb
    · rw [o5]; exact la
    · rw [o6']; exact lp
  have inj : ∀ u v, (qU T n).testBit u = true → (qU T n).testBit v = true → o6 p a b c d e u = o6 p a b c d e v → u = v := fun u v hu hv q => by
    have iv : ∀ w, (qU T n).testBit w = true → o6 p a b c d e (o6 p a b c d e w) = w := fun w hw => by
      rcases (hU w).mp hw with rfl | rfl | rfl | rfl | rfl | rfl
      · rw [o1, o6']
      · rw [o2, o5]
      · rw [o3, o4]
      · rw [o4, o3]
      · rw [o5, o2]
      · rw [o6', o1]
    rw [← iv u hu, q, iv v hv]
  have hx := hmem x (Or.inl rfl)
  have hy := hmem y (Or.inr (Or.inl rfl))
  have hz := hmem z (Or.inr (Or.inr rfl))
  refine ⟨fun u hu => ⟨hmem u hu, by rw [ho u (hmem u hu)]; exact opL_6 (V := V) h6 eG hU (hmem u hu), by rw [ho u (hmem u hu)]; exact hlt u (hmem u hu)⟩, ?_, ?_, ?_, ?_⟩
  · rw [ho x hx, ho y hy, ho z hz]
    apply Nat.eq_of_testBit_eq
    intro v
    rw [nd_test, m3_test, Bool.eq_iff_iff, Bool.and_eq_true, hU v, Bool.not_eq_true', decide_eq_true_iff]
    have gm : m.testBit v = false ↔ ¬ m.testBit v = true := by cases m.testBit v <;> simp
    rw [gm]
    have mv : m.testBit v = true ↔ (v = x ∨ v = y ∨ v = z) := by rw [em, m3_test]; exact decide_eq_true_iff
    have mm : ∀ u, m.testBit u = true ↔ (u = x ∨ u = y ∨ u = z) := fun u => by rw [em, m3_test]; exact decide_eq_true_iff
    rw [eG] at hm
    simp only [List.mem_cons, List.not_mem_nil, or_false] at hm
    have pick : ∀ s t r s' t' r' : Nat, m = m3 s t r → o6 p a b c d e s = s' → o6 p a b c d e t = t' → o6 p a b c d e r = r' → ((v = o6 p a b c d e x ∨ v = o6 p a b c d e y ∨ v = o6 p a b c d e z) ↔ (v = s' ∨ v = t' ∨ v = r')) := fun s t r s' t' r' e1 e2 e3 e4 => by
      have ms : ∀ u, (u = s ∨ u = t ∨ u = r) ↔ (u = x ∨ u = y ∨ u = z) := fun u => by rw [← mm u, e1, m3_test]; exact decide_eq_true_iff.symm
      have q : ∀ u, (u = x ∨ u = y ∨ u = z) → (o6 p a b c d e u = s' ∨ o6 p a b c d e u = t' ∨ o6 p a b c d e u = r') := fun u hu => by
        rcases (ms u).mpr hu with rfl | rfl | rfl
        · exact Or.inl e2
        · exact Or.inr (Or.inl e3)
        · exact Or.inr (Or.inr e4)
      have q2 : ∀ u, (u = s ∨ u = t ∨ u = r) → (o6 p a b c d e u = o6 p a b c d e x ∨ o6 p a b c d e u = o6 p a b c d e y ∨ o6 p a b c d e u = o6 p a b c d e z) := fun u hu => by
        rcases (ms u).mp hu with rfl | rfl | rfl
        · exact Or.inl rfl
        · exact Or.inr (Or.inl rfl)
        · exact Or.inr (Or.inr rfl)
      constructor
      · rintro (rfl | rfl | rfl)
        · exact q x (Or.inl rfl)
        · exact q y (Or.inr (Or.inl rfl))
        · exact q z (Or.inr (Or.inr rfl))
      · rintro (rfl | rfl | rfl)
        · rw [← e2]; exact q2 s (Or.inl rfl)
        · rw [← e3]; exact q2 t (Or.inr (Or.inl rfl))
        · rw [← e4]; exact q2 r (Or.inr (Or.inr rfl))
    rcases hm with hm | hm | hm | hm
    · rw [pick p a b e d c hm o1 o2 o3, hm, m3_test, decide_eq_true_iff]
      constructor
      · rintro ⟨q1, q2⟩
        rcases q1 with q1 | q1 | q1 | q1 | q1 | q1 <;> first | (simp [q1]; done) | exact absurd (by simp [q1]) q2
      · rintro (rfl | rfl | rfl) <;> simp [k1, k2, k3, k4, k5, k6, k7, k8, k9, k10, k11, k12, k13, k14, k15, Ne.symm k1, Ne.symm k2, Ne.symm k3, Ne.symm k4, Ne.symm k5, Ne.symm k6, Ne.symm k7, Ne.symm k8, Ne.symm k9, Ne.symm k10, Ne.symm k11, Ne.symm k12, Ne.symm k13, Ne.symm k14, Ne.symm k15]
    · rw [pick p c d e b a hm o1 o4 o5, hm, m3_test, decide_eq_true_iff]
      constructor
      · rintro ⟨q1, q2⟩
        rcases q1 with q1 | q1 | q1 | q1 | q1 | q1 <;> first | (simp [q1]; done) | exact absurd (by simp [q1]) q2
      · rintro (rfl | rfl | rfl) <;> simp [k1, k2, k3, k4, k5, k6, k7, k8, k9, k10, k11, k12, k13, k14, k15, Ne.symm k1, Ne.symm k2, Ne.symm k3, Ne.symm k4, Ne.symm k5, Ne.symm k6, Ne.symm k7, Ne.symm k8, Ne.symm k9, Ne.symm k10, Ne.symm k11, Ne.symm k12, Ne.symm k13, Ne.symm k14, Ne.symm k15]
    · rw [pick a c e d b p hm o2 o4 o6', hm, m3_test, decide_eq_true_iff]
      constructor
      · rintro ⟨q1, q2⟩
        rcases q1 with q1 | q1 | q1 | q1 | q1 | q1 <;> first | (simp [q1]; done) | exact absurd (by simp [q1]) q2
      · rintro (rfl | rfl | rfl) <;> simp [k1, k2, k3, k4, k5, k6, k7, k8, k9, k10, k11, k12, k13, k14, k15, Ne.symm k1, Ne.symm k2, Ne.symm k3, Ne.symm k4, Ne.symm k5, Ne.symm k6, Ne.symm k7, Ne.symm k8, Ne.symm k9, Ne.symm k10, Ne.symm k11, Ne.symm k12, Ne.symm k13, Ne.symm k14, Ne.symm k15]
    · rw [pick b d e c a p hm o3 o5 o6', hm, m3_test, decide_eq_true_iff]
      constructor
      · rintro ⟨q1, q2⟩
        rcases q1 with q1 | q1 | q1 | q1 | q1 | q1 <;> first | (simp [q1]; done) | exact absurd (by simp [q1]) q2
      · rintro (rfl | rfl | rfl) <;> simp [k1, k2, k3, k4, k5, k6, k7, k8, k9, k10, k11, k12, k13, k14, k15, Ne.symm k1, Ne.symm k2, Ne.symm k3, Ne.symm k4, Ne.symm k5, Ne.symm k6, Ne.symm k7, Ne.symm k8, Ne.symm k9, Ne.symm k10, Ne.symm k11, Ne.symm k12, Ne.symm k13, Ne.symm k14, Ne.symm k15]
  · rw [ho x hx, ho y hy]; exact fun q => hxy (inj x y hx hy q)
  · rw [ho y hy, ho z hz]; exact fun q => hyz (inj y z hy hz q)
  · rw [ho x hx, ho z hz]; exact fun q => hxz (inj x z hx hz q)
/-- the points as the union of all four -/
theorem qU_4 {V : Nat} {T : sT} (hT : sOk V T) {n : Nat} (hn : n < 42875) (h : qdB T n = true) : mN T (n / 1225) ||| mN T (n / 35 % 35) ||| mN T (n % 35) ||| mN T (ql T n) = qU T n := by
  obtain ⟨p, a, b, c, d, e, -, h6, eG, -, hU, -⟩ := qd_all hT hn h
  have e1 : mN T (n / 1225) = m3 p a b ∧ mN T (n / 35 % 35) = m3 p c d ∧ mN T (n % 35) = m3 a c e ∧ mN T (ql T n) = m3 b d e := by
    unfold qG at eG
    simp only [List.cons.injEq, and_true] at eG
    exact eG
  obtain ⟨m1, m2, m3', m4⟩ := e1
  apply Nat.eq_of_testBit_eq
  intro u
  rw [m1, m2, m3', m4, Bool.eq_iff_iff, hU u]
  simp only [Nat.testBit_or, m3_test, Bool.or_eq_true, decide_eq_true_eq]
  constructor
  · intro h
    rcases h with ((h | h) | h) | h <;> rcases h with h | h | h <;> simp [h]
  · intro h
    rcases h with h | h | h | h | h | h <;> simp [h]
/-- pairs of what fits are free -/
theorem freM_in {V : Nat} {T : sT} (hT : sOk V T) {m : Nat} (h : freM V T m) : ∀ u v, in2 m u v → T u v = -1 := by
  obtain ⟨x, y, z, h1, h2, h3, rfl, f1, f2, f3⟩ := h
  intro u v g
  obtain ⟨g0, g1, g2⟩ := in2_3.mp g
  rcases g1 with rfl | rfl | rfl <;> rcases g2 with rfl | rfl | rfl <;> first | exact absurd rfl g0 | exact f1 | exact f2 | exact f3 | exact sy_free hT f1 | exact sy_free hT f2 | exact sy_free hT f3
theorem freM_3 {V x y z : Nat} {T : sT} (hT : sOk V T) (h : freM V T (m3 x y z)) (hxy : ¬ x = y) (hyz : ¬ y = z) (hxz : ¬ x = z) : sFree T x y z :=
  ⟨freM_in hT h x y (in2_3.mpr ⟨hxy, by simp, by simp⟩), freM_in hT h y z (in2_3.mpr ⟨hyz, by simp, by simp⟩), freM_in hT h x z (in2_3.mpr ⟨hxz, by simp, by simp⟩)⟩
end
