/-! ===== the class reads its quadrilaterals; exchanges planned ===== -/
theorem u64 : bUp 0 am_m64.1 = true := by decide +kernel
theorem u60 : bUp 0 am_m60.1 = true := by decide +kernel
theorem u59 : bUp 0 am_m59.1 = true := by decide +kernel
theorem u46 : bUp 0 am_m46.1 = true := by decide +kernel
theorem u47 : bUp 0 am_m47.1 = true := by decide +kernel
theorem u66 : bUp 0 am_m66.1 = true := by decide +kernel
theorem k_mkQ {d q : Nat} {hp : amH} {R : xQ} {a : Int32} (hH : bHk 84 bTT hp) (ha : a.toInt = (q : Int)) (hq : (q : Int) < rN hp 49 0) (hR : ∀ r : Int64, r.toInt = rJ hp 50 q → R (.inl (some (.long r))) hp) : xK d 64 [.ref 49, .int a] hp R := by
  have q1 := rb_c hH (c := 49) (by decide) (show bTT 49 = some (4, 3, [.inl (2147483648, 2147483753), .inr (.inr [50]), .inr (.inr [51])]) from rfl) (f := 0) rfl (by decide)
  refine xin (M := am_m64) rfl rfl rfl ?_
  refine xild 1 ⟨u64, _, rfl⟩ rfl rfl ?_
  refine xif_lt 4 ⟨u64, _, rfl⟩ rfl (fun c1 => ?_) (fun c1 => ?_)
  · omega
  · refine xild 5 ⟨u64, _, rfl⟩ rfl rfl ?_
    refine xald 6 ⟨u64, _, rfl⟩ rfl rfl ?_
    refine xgetC 9 hH ⟨u64, _, rfl⟩ rfl (by decide) (by decide) rfl rfl (by decide) (fun z6 h6 => ?_)
    refine xcmp_ge 12 ⟨u64, _, rfl⟩ rfl (fun c9 => ?_) (fun c9 => ?_)
    · omega
    · refine xald 13 ⟨u64, _, rfl⟩ rfl rfl ?_
      refine xgetD 16 (50) hH ⟨u64, _, rfl⟩ rfl (by decide) (by decide) rfl rfl (by decide) ?_
      refine xild 17 ⟨u64, _, rfl⟩ rfl rfl ?_
      refine xlald 18 (a).toInt.toNat hH ⟨u64, _, rfl⟩ rfl (by decide) rfl (by omega) (by omega) (fun z17 h17 => ?_)
      refine xgoto ⟨u64, _, rfl⟩ ?_
      exact xretJ ⟨u64, _, rfl⟩ rfl (hR _ (by rw [h17, show a.toInt.toNat = q by omega]))
theorem k_ptQ {d q : Nat} {hp : amH} {R : xQ} {a : Int32} (hH : bHk 84 bTT hp) (ha : a.toInt = (q : Int)) (hq : (q : Int) < rN hp 49 0) (hR : ∀ r : Int32, r.toInt = rN hp 51 q → R (.inl (some (.int r))) hp) : xK d 60 [.ref 49, .int a] hp R := by
  have q1 := rb_c hH (c := 49) (by decide) (show bTT 49 = some (4, 3, [.inl (2147483648, 2147483753), .inr (.inr [50]), .inr (.inr [51])]) from rfl) (f := 0) rfl (by decide)
  refine xin (M := am_m60) rfl rfl rfl ?_
  refine xild 1 ⟨u60, _, rfl⟩ rfl rfl ?_
  refine xif_lt 4 ⟨u60, _, rfl⟩ rfl (fun c1 => ?_) (fun c1 => ?_)
  · omega
  · refine xild 5 ⟨u60, _, rfl⟩ rfl rfl ?_
    refine xald 6 ⟨u60, _, rfl⟩ rfl rfl ?_
    refine xgetC 9 hH ⟨u60, _, rfl⟩ rfl (by decide) (by decide) rfl rfl (by decide) (fun z6 h6 => ?_)
    refine xcmp_ge 12 ⟨u60, _, rfl⟩ rfl (fun c9 => ?_) (fun c9 => ?_)
    · omega
    · refine xald 13 ⟨u60, _, rfl⟩ rfl rfl ?_
      refine xgetD 16 (51) hH ⟨u60, _, rfl⟩ rfl (by decide) (by decide) rfl rfl (by decide) ?_
      refine xild 17 ⟨u60, _, rfl⟩ rfl rfl ?_
      refine xiald 18 (a).toInt.toNat hH ⟨u60, _, rfl⟩ rfl (by decide) rfl (by omega) (by omega) (fun z17 h17 => ?_)
      refine xgoto ⟨u60, _, rfl⟩ ?_
      exact xret ⟨u60, _, rfl⟩ rfl (hR _ (by rw [h17, show a.toInt.toNat = q by omega]))
theorem ris_drop : ∀ {L : List Nat} (t : Nat), ris L → ris (L.drop t)
  | [], t, _ => by rw [List.drop_nil]; trivial
  | x :: r, 0, h => h
  | x :: r, t + 1, h => ris_drop (L := r) t h.2
/-- the triple at a place of a quadrilateral -/
theorem l59 {d i : Nat} {Ls : List Nat} {hp : amH} {R : xQ} {a b : Int32} (hH : bHk 84 bTT hp) (hb : b.toInt = (i : Int)) (hi : i < Ls.length) (hLs : ris Ls) (hl : Ls.length ≤ 35)
    (hR : ∀ r : Int32, r.toInt = ((Ls.getD i 0 : Nat) : Int) → R (.inl (some (.int r))) hp) :
    ∀ (jj t : Nat) (w : Int64) (wt : Int32), wt.toInt = (t : Int) → t + jj = i → w.toInt = ((jL (Ls.drop t) : Nat) : Int) → xV (d + 1) am_m59 9 [some (.ref 49), some (.int a), some (.int b), some (.long w), none, some (.int wt)] [] hp R := by
  intro jj
  induction jj with
  | zero =>
    intro t w wt hwt hj hw
    have et : t = i := by omega
    subst et
    have ed : Ls.drop t = Ls.getD t 0 :: Ls.drop (t + 1) := by
      rw [List.drop_eq_getElem_cons hi, List.getD_eq_getElem?_getD, List.getElem?_eq_getElem hi]
      rfl
    have hr := ris_drop t hLs
    rw [ed] at hr hw
    obtain ⟨g1, g2, g3, g4⟩ := jL_low hr
    have g5 := hr.1.1
    generalize hgd : Ls.getD t 0 = x at *
    have p1 := Nat.two_pow_pos x
    have p2 : 2 ^ x ≤ 2 ^ 35 := Nat.pow_le_pow_right (by decide) (by omega)
    refine xild2 11 ⟨u59, _, rfl⟩ rfl rfl ?_
    refine xild 12 ⟨u59, _, rfl⟩ rfl rfl ?_
    refine xcmp_ge 15 ⟨u59, _, rfl⟩ rfl (fun c12 => ?_) (fun c12 => ?_)
    · refine xlld 28 ⟨u59, _, rfl⟩ rfl rfl ?_
      refine xlcst 29 (0) ⟨u59, _, rfl⟩ rfl (by decide) (fun z28 h28 => ?_)
      refine xlcmp 30 ⟨u59, _, rfl⟩ rfl (fun z29 h29 => ?_)
      refine xif_ne 33 ⟨u59, _, rfl⟩ rfl (fun c30 => ?_) (fun c30 => ?_)
      · refine xlld 38 ⟨u59, _, rfl⟩ rfl rfl ?_
        refine xlld 39 ⟨u59, _, rfl⟩ rfl rfl ?_
        refine xlneg 40 ⟨u59, _, rfl⟩ rfl ?_
        refine xland 41 ⟨u59, _, rfl⟩ rfl ?_
        have lo := j_low hw g3 g2 (by omega)
        refine xlcst 42 (1) ⟨u59, _, rfl⟩ rfl (by decide) (fun z41 h41 => ?_)
        refine xlsub 43 ⟨u59, _, rfl⟩ rfl ?_
        have lp := j_sub lo (b := 1) h41 (by omega)
        refine xcallS 46 [.long _] [] hH ⟨u59, _, rfl⟩ rfl rfl rfl rfl rfl (k_bcJ lp (by omega) (fun z43 h43 => ⟨_, rfl, ?_⟩))
        exact xret ⟨u59, _, rfl⟩ rfl (hR _ h43)
      · omega
    · omega
  | succ jj ih =>
    intro t w wt hwt hj hw
    have ht : t < Ls.length := by omega
    have ed : Ls.drop t = Ls.getD t 0 :: Ls.drop (t + 1) := by
      rw [List.drop_eq_getElem_cons ht, List.getD_eq_getElem?_getD, List.getElem?_eq_getElem ht]
      rfl
    have hr := ris_drop t hLs
    rw [ed] at hr hw
    obtain ⟨g1, g2, g3, g4⟩ := jL_low hr
    refine xild2 11 ⟨u59, _, rfl⟩ rfl rfl ?_
    refine xild 12 ⟨u59, _, rfl⟩ rfl rfl ?_
    refine xcmp_ge 15 ⟨u59, _, rfl⟩ rfl (fun c12 => ?_) (fun c12 => ?_)
    · omega
    · refine xlld 16 ⟨u59, _, rfl⟩ rfl rfl ?_
      refine xlld 17 ⟨u59, _, rfl⟩ rfl rfl ?_
      refine xlcst 18 (1) ⟨u59, _, rfl⟩ rfl (by decide) (fun z17 h17 => ?_)
      refine xlsub 19 ⟨u59, _, rfl⟩ rfl ?_
      have ls := j_sub hw (b := 1) h17 (by omega)
      refine xland 20 ⟨u59, _, rfl⟩ rfl ?_
      have la := j_and hw ls
      rw [g1] at la
      refine xlst 21 ⟨u59, _, rfl⟩ rfl rfl ?_
      refine xinc 24 (1) ⟨u59, _, rfl⟩ rfl rfl rfl (by decide) (by omega) (by omega) (fun z21 h21 => ?_)
      refine xgoto ⟨u59, _, rfl⟩ ?_
      exact ih (t + 1) (w &&& (w - z17)) z21 (by omega) (by omega) la
theorem k_trQ {d i q : Nat} {Ls : List Nat} {hp : amH} {R : xQ} {a b : Int32} (hH : bHk 84 bTT hp) (ha : a.toInt = (q : Int)) (hq : (q : Int) < rN hp 49 0) (hm : rJ hp 50 q = ((jL Ls : Nat) : Int)) (hb : b.toInt = (i : Int)) (hi : i < Ls.length) (hLs : ris Ls) (hl : Ls.length ≤ 35)
    (hR : ∀ r : Int32, r.toInt = ((Ls.getD i 0 : Nat) : Int) → R (.inl (some (.int r))) hp) : xK (d + 1) 59 [.ref 49, .int a, .int b] hp R := by
  refine xin (M := am_m59) rfl rfl rfl ?_
  refine xald 1 ⟨u59, _, rfl⟩ rfl rfl ?_
  refine xild 2 ⟨u59, _, rfl⟩ rfl rfl ?_
  refine xcallC 5 (o := 49) [.int _] [] hH ⟨u59, _, rfl⟩ rfl rfl (by decide) rfl (by decide) rfl ⟨rfl, rfl, rfl, rfl⟩ rfl (k_mkQ hH ha hq (fun z2 h2 => ⟨_, rfl, ?_⟩))
  refine xlst 6 ⟨u59, _, rfl⟩ rfl rfl ?_
  refine xcst 7 (0) ⟨u59, _, rfl⟩ rfl (by decide) (fun z6 h6 => ?_)
  refine xist2 9 ⟨u59, _, rfl⟩ rfl rfl ?_
  exact l59 hH hb hi hLs hl hR i 0 _ _ h6 (by omega) (by rw [h2, hm]; rfl)
/-- a planned exchange: what goes, what comes -/
def exO (hp : amH) (A B : List Nat) : Prop := rN hp 62 0 = ((A.length : Nat) : Int) ∧ B.length = A.length ∧ ∀ i, i < A.length → rN hp 63 i = ((A.getD i 0 : Nat) : Int) ∧ rN hp 64 i = ((B.getD i 0 : Nat) : Int)
theorem exO_fr {hp hp1 : amH} {A B : List Nat} (h : exO hp A B) (F : ∀ c k, c = 62 ∨ c = 63 ∨ c = 64 → bFld hp1 c k = bFld hp c k) : exO hp1 A B :=
  ⟨(rN_eq (F 62 0 (Or.inl rfl))).trans h.1, h.2.1, fun i hi => ⟨(rN_eq (F 63 i (Or.inr (Or.inl rfl)))).trans (h.2.2 i hi).1, (rN_eq (F 64 i (Or.inr (Or.inr rfl)))).trans (h.2.2 i hi).2⟩⟩
theorem k_exB {d : Nat} {hp : amH} {R : xQ} {x : Int64} (hH : bHk 84 bTT hp) (hR : ∀ hp1, bHk 84 bTT hp1 → bFx [62] hp hp1 → exO hp1 [] [] → rJ hp1 62 1 = x.toInt → R (.inl none) hp1) : xK d 46 [.ref 62, .long x] hp R := by
  refine xinJ (M := am_m46) rfl rfl rfl ?_
  refine xald 1 ⟨u46, _, rfl⟩ rfl rfl ?_
  refine xcst 2 (0) ⟨u46, _, rfl⟩ rfl (by decide) (fun z1 h1 => ?_)
  refine xputC 5 hH ⟨u46, _, rfl⟩ rfl (by decide) (by decide) rfl rfl (by decide) ⟨rfl, rfl⟩ (by omega) (by omega) (fun hp2 hH2 U2 => ?_)
  have s2 := U2.1
  refine xald 6 ⟨u46, _, rfl⟩ rfl rfl ?_
  refine xlld 7 ⟨u46, _, rfl⟩ rfl rfl ?_
  refine xputJ 10 hH2 ⟨u46, _, rfl⟩ rfl (by decide) (by decide) rfl rfl (by decide) ⟨rfl, rfl⟩ (fun hp7 hH7 U7 => ?_)
  exact xretV ⟨u46, _, rfl⟩ rfl (hR _ hH7 ((bFx_U U2 (by simp)).trans (bY_bx U7 (by simp))) ⟨by rw [rV_ne U7 (by omega)]; exact s2.trans h1, rfl, fun i hi => absurd hi (Nat.not_lt_zero i)⟩ (rV_J U7))
theorem k_exP {d m n : Nat} {A B : List Nat} {hp : amH} {R : xQ} {a b : Int32} (hH : bHk 84 bTT hp) (hE : exO hp A B) (hl : A.length < 12) (ha : a.toInt = (m : Int)) (hb : b.toInt = (n : Int)) (hR : ∀ hp1, bHk 84 bTT hp1 → bFx [62, 63, 64] hp hp1 → exO hp1 (A ++ [m]) (B ++ [n]) → rJ hp1 62 1 = rJ hp 62 1 → R (.inl none) hp1) : xK d 47 [.ref 62, .int a, .int b] hp R := by
  obtain ⟨E1, E2, E3⟩ := hE
  have em := aMin a
  have ex := aMax a
  have fm := aMin b
  have fx := aMax b
  refine xin (M := am_m47) rfl rfl rfl ?_
  refine xald 1 ⟨u47, _, rfl⟩ rfl rfl ?_
  refine xgetC 4 hH ⟨u47, _, rfl⟩ rfl (by decide) (by decide) rfl rfl (by decide) (fun z1 h1 => ?_)
  refine xbip 6 (12) ⟨u47, _, rfl⟩ rfl (by decide) (fun z4 h4 => ?_)
  refine xcmp_ge 9 ⟨u47, _, rfl⟩ rfl (fun c6 => ?_) (fun c6 => ?_)
  · omega
  · refine xald 10 ⟨u47, _, rfl⟩ rfl rfl ?_
    refine xgetD 13 (63) hH ⟨u47, _, rfl⟩ rfl (by decide) (by decide) rfl rfl (by decide) ?_
    refine xald 14 ⟨u47, _, rfl⟩ rfl rfl ?_
    refine xgetC 17 hH ⟨u47, _, rfl⟩ rfl (by decide) (by decide) rfl rfl (by decide) (fun z14 h14 => ?_)
    refine xild 18 ⟨u47, _, rfl⟩ rfl rfl ?_
    refine xiast 19 (z14).toInt.toNat hH ⟨u47, _, rfl⟩ rfl (by decide) rfl (by omega) (by omega) (by omega) (by omega) (fun hp18 hH18 U18 => ?_)
    have s18 := U18.1
    have n18_62_0 : rN hp18 (62) 0 = rN hp (62) 0 := rU_ne U18 (by omega)
    refine xald 20 ⟨u47, _, rfl⟩ rfl rfl ?_
    refine xgetD 23 (64) hH18 ⟨u47, _, rfl⟩ rfl (by decide) (by decide) rfl rfl (by decide) ?_
    refine xald 24 ⟨u47, _, rfl⟩ rfl rfl ?_
    refine xgetC 27 hH18 ⟨u47, _, rfl⟩ rfl (by decide) (by decide) rfl rfl (by decide) (fun z24 h24 => ?_)
    refine xild 28 ⟨u47, _, rfl⟩ rfl rfl ?_
    refine xiast 29 (z24).toInt.toNat hH18 ⟨u47, _, rfl⟩ rfl (by decide) rfl (by omega) (by omega) (by omega) (by omega) (fun hp28 hH28 U28 => ?_)
    have s28 := U28.1
    have n28_62_0 : rN hp28 (62) 0 = rN hp18 (62) 0 := rU_ne U28 (by omega)
    refine xald 30 ⟨u47, _, rfl⟩ rfl rfl ?_
    refine xdup 31 ⟨u47, _, rfl⟩ rfl rfl ?_
    refine xgetC 34 hH28 ⟨u47, _, rfl⟩ rfl (by decide) (by decide) rfl rfl (by decide) (fun z31 h31 => ?_)
    refine xcst 35 (1) ⟨u47, _, rfl⟩ rfl (by decide) (fun z34 h34 => ?_)
    refine xadd 36 _ ⟨u47, _, rfl⟩ rfl rfl (by omega) (by omega) (fun z35 h35 => ?_)
    refine xputC 39 hH28 ⟨u47, _, rfl⟩ rfl (by decide) (by decide) rfl rfl (by decide) ⟨rfl, rfl⟩ (by omega) (by omega) (fun hp36 hH36 U36 => ?_)
    have s36 := U36.1
    refine xretV ⟨u47, _, rfl⟩ rfl (hR _ hH36 (((bFx_U U18 (by simp)).trans (bFx_U U28 (by simp))).trans (bFx_U U36 (by simp))) ⟨?_, by rw [List.length_append, List.length_append, E2]; rfl, fun i hi => ?_⟩ ?_)
    · rw [List.length_append, List.length_singleton]
      omega
    · rw [List.length_append, List.length_singleton] at hi
      have u18 := U18.1
      have u28 := U28.1
      by_cases g : i = A.length
      · subst g
        rw [gd_end, show A.length = B.length from E2.symm, gd_end, E2]
        refine ⟨?_, ?_⟩
        · rw [rU_ne U36 (by omega), rU_ne U28 (by omega), show A.length = z14.toInt.toNat by omega, u18]
          exact ha
        · rw [rU_ne U36 (by omega), show A.length = z24.toInt.toNat by omega, u28]
          exact hb
      · rw [gd_app (by omega), gd_app (by omega)]
        obtain ⟨k1, k2⟩ := E3 i (by omega)
        refine ⟨?_, ?_⟩
        · rw [rU_ne U36 (by omega), rU_ne U28 (by omega), rU_ne U18 (by omega)]
          exact k1
        · rw [rU_ne U36 (by omega), rU_ne U28 (by omega), rU_ne U18 (by omega)]
          exact k2
    · rw [rJ_ne U36 (by omega), rJ_ne U28 (by omega), rJ_ne U18 (by omega)]
