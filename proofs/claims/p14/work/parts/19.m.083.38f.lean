/-! ##### 19.m.083.38f ##### -/
section
/-! ===== the class reads its quadrilaterals; exchanges planned ===== -/
theorem u64 : bUp 0 am_m64.1 = true := by decide +kernel
theorem u60 : bUp 0 am_m60.1 = true := by decide +kernel
theorem u59 : bUp 0 am_m59.1 = true := by decide +kernel
theorem u46 : bUp 0 am_m46.1 = true := by decide +kernel
theorem u47 : bUp 0 am_m47.1 = true := by decide +kernel
theorem u66 : bUp 0 am_m66.1 = true := by decide +kernel
theorem k_mkQ {d q : Nat} {hp : amH} {R : xQ} {a : Int32} (hH : bHk 84 bTT hp) (ha : a.toInt = (q : Int)) (hq : (q : Int) < rN hp 49 0) (hR : ∀ r : Int64, r.toInt = rJ hp 50 q → R (.inl (some (.long r))) hp) : xK d 64 [.ref 49, .int a] hp R := by
  have q1 := rb_c hH (c := 49) (by decide) (show bTT 49 = some (4, 3, [.inl (2147483648, 2147483753), .inr (.inr [50]), .inr (.inr [51])]) from rfl) (f := 0) rfl (by decide)
  refine xin (M := am_m64) rfl rfl rfl ?_
  refine xild 1 ⟨u64, _, rfl⟩ rfl rfl ?_
  refine xif_lt 4 ⟨u64, _, rfl⟩ rfl (fun c1 => ?_) (fun c1 => ?_)
  · omega
  · refine xild 5 ⟨u64, _, rfl⟩ rfl rfl ?_
    refine xald 6 ⟨u64, _, rfl⟩ rfl rfl ?_
    refine xgetC 9 hH ⟨u64, _, rfl⟩ rfl (by decide) (by decide) rfl rfl (by decide) (fun z6 h6 => ?_)
    refine xcmp_ge 12 ⟨u64, _, rfl⟩ rfl (fun c9 => ?_) (fun c9 => ?_)
    · omega
    · refine xald 13 ⟨u64, _, rfl⟩ rfl rfl ?_
      refine xgetD 16 (50) hH ⟨u64, _, rfl⟩ rfl (by decide) (by decide) rfl rfl (by decide) ?_
      refine xild 17 ⟨u64, _, rfl⟩ rfl rfl ?_
      refine xlald 18 (a).toInt.toNat hH ⟨u64, _, rfl⟩ rfl (by decide) rfl (by omega) (by omega) (fun z17 h17 => ?_)
      refine xgoto ⟨u64, _, rfl⟩ ?_
      exact xretJ ⟨u64, _, rfl⟩ rfl (hR _ (by rw [h17, show a.toInt.toNat = q by omega]))
theorem k_ptQ {d q : Nat} {hp : amH} {R : xQ} {a : Int32} (hH : bHk 84 bTT hp) (ha : a.toInt = (q : Int)) (hq : (q : Int) < rN hp 49 0) (hR : ∀ r : Int32, r.toInt = rN hp 51 q → R (.inl (some (.int r))) hp) : xK d 60 [.ref 49, .int a] hp R := by
  have q1 := rb_c hH (c := 49) (by decide) (show bTT 49 = some (4, 3, [.inl (2147483648, 2147483753), .inr (.inr [50]), .inr (.inr [51])]) from rfl) (f := 0) rfl (by decide)
  refine xin (M := am_m60) rfl rfl rfl ?_
  refine xild 1 ⟨u60, _, rfl⟩ rfl rfl ?_
  refine xif_lt 4 ⟨u60, _, rfl⟩ rfl (fun c1 => ?_) (fun c1 => ?_)
  · omega
  · refine xild 5 ⟨u60, _, rfl⟩ rfl rfl ?_
    refine xald 6 ⟨u60, _, rfl⟩ rfl rfl ?_
    refine xgetC 9 hH ⟨u60, _, rfl⟩ rfl (by decide) (by decide) rfl rfl (by decide) (fun z6 h6 => ?_)
    refine xcmp_ge 12 ⟨u60, _, rfl⟩ rfl (fun c9 => ?_) (fun c9 => ?_)
    · omega
    · refine xald 13 ⟨u60, _, rfl⟩ rfl rfl ?_
      refine xgetD 16 (51) hH ⟨u60, _, rfl⟩ rfl (by decide) (by decide) rfl rfl (by decide) ?_
      refine xild 17 ⟨u60, _, rfl⟩ rfl rfl ?_
      refine xiald 18 (a).toInt.toNat hH ⟨u60, _, rfl⟩ rfl (by decide) rfl (by omega) (by omega) (fun z17 h17 => ?_)
      refine xgoto ⟨u60, _, rfl⟩ ?_
      exact xret ⟨u60, _, rfl⟩ rfl (hR _ (by rw [h17, show a.toInt.toNat = q by omega]))
theorem ris_drop : ∀ {L : List Nat} (t : Nat), ris L → ris (L.drop t)
  | [], t, _ => by rw [List.drop_nil]; trivial
  | x :: r, 0, h => h
  | x :: r, t + 1, h => ris_drop (L := r) t h.2
/-- the triple at a place of a quadrilateral -/
theorem l59 {d i : Nat} {Ls : List Nat} {hp : amH} {R : xQ} {a b : Int32} (hH : bHk 84 bTT hp) (hb : b.toInt = (i : Int)) (hi : i < Ls.length) (hLs : ris Ls) (hl : Ls.length ≤ 35)
    (hR : ∀ r : Int32, r.toInt = ((Ls.getD i 0 : Nat) : Int) → R (.inl (some (.int r))) hp) :
    ∀ (jj t : Nat) (w : Int64) (wt : Int32), wt.toInt = (t : Int) → t + jj = i → w.toInt = ((jL (Ls.drop t) : Nat) : Int) → xV (d + 1) am_m59 9 [some (.ref 49), some (.int a), some (.int b), some (.long w), none, some (.int wt)] [] hp R := by
  intro jj
  induction jj with
  | zero =>
    intro t w wt hwt hj hw
    have et : t = i := by omega
    subst et
    have ed : Ls.drop t = Ls.getD t 0 :: Ls.drop (t + 1) := by
      rw [List.drop_eq_getElem_cons hi, List.getD_eq_getElem?_getD, List.getElem?_eq_getElem hi]
      rfl
    have hr := ris_drop t hLs
    rw [ed] at hr hw
    obtain ⟨g1, g2, g3, g4⟩ := jL_low hr
    have g5 := hr.1.1
    generalize hgd : Ls.getD t 0 = x at *
    have p1 := Nat.two_pow_pos x
    have p2 : 2 ^ x ≤ 2 ^ 35 := Nat.pow_le_pow_right (by decide) (by omega)
    refine xild2 11 ⟨u59, _, rfl⟩ rfl rfl ?_
    refine xild 12 ⟨u59, _, rfl⟩ rfl rfl ?_
    refine xcmp_ge 15 ⟨u59, _, rfl⟩ rfl (fun c12 => ?_) (fun c12 => ?_)
    · refine xlld 28 ⟨u59, _, rfl⟩ rfl rfl ?_
      refine xlcst 29 (0) ⟨u59, _, rfl⟩ rfl (by decide) (fun z28 h28 => ?_)
      refine xlcmp 30 ⟨u59, _, rfl⟩ rfl (fun z29 h29 => ?_)
      refine xif_ne 33 ⟨u59, _, rfl⟩ rfl (fun c30 => ?_) (fun c30 => ?_)
      · refine xlld 38 ⟨u59, _, rfl⟩ rfl rfl ?_
        refine xlld 39 ⟨u59, _, rfl⟩ rfl rfl ?_
        refine xlneg 40 ⟨u59, _, rfl⟩ rfl ?_
        refine xland 41 ⟨u59, _, rfl⟩ rfl ?_
        have lo := j_low hw g3 g2 (by omega)
        refine xlcst 42 (1) ⟨u59, _, rfl⟩ rfl (by decide) (fun z41 h41 => ?_)
        refine xlsub 43 ⟨u59, _, rfl⟩ rfl ?_
        have lp := j_sub lo (b := 1) h41 (by omega)
        refine xcallS 46 [.long _] [] hH ⟨u59, _, rfl⟩ rfl rfl rfl rfl rfl (k_bcJ lp (by omega) (fun z43 h43 => ⟨_, rfl, ?_⟩))
        exact xret ⟨u59, _, rfl⟩ rfl (hR _ h43)
      · omega
    · omega
  | succ jj ih =>
    intro t w wt hwt hj hw
    have ht : t < Ls.length := by omega
    have ed : Ls.drop t = Ls.getD t 0 :: Ls.drop (t + 1) := by
      rw [List.drop_eq_getElem_cons ht, List.getD_eq_getElem?_getD, List.getElem?_eq_getElem ht]
      rfl
    have hr := ris_drop t hLs
    rw [ed] at hr hw
    obtain ⟨g1, g2, g3, g4⟩ := jL_low hr
    refine xild2 11 ⟨u59, _, rfl⟩ rfl rfl ?_
    refine xild 12 ⟨u59, _, rfl⟩ rfl rfl ?_
    refine xcmp_ge 15 ⟨u59, _, rfl⟩ rfl (fun c12 => ?_) (fun c12 => ?_)
    · omega
    · refine xlld 16 ⟨u59, _, rfl⟩ rfl rfl ?_
      refine xlld 17 ⟨u59, _, rfl⟩ rfl rfl ?_
      refine xlcst 18 (1) ⟨u59, _, rfl⟩ rfl (by decide) (fun z17 h17 => ?_)
      refine xlsub 19 ⟨u59, _, rfl⟩ rfl ?_
      have ls := j_sub hw (b := 1) h17 (by omega)
      refine xland 20 ⟨u59, _, rfl⟩ rfl ?_
      have la := j_and hw ls
      rw [g1] at la
      refine xlst 21 ⟨u59, _, rfl⟩ rfl rfl ?_
      refine xinc 24 (1) ⟨u59, _, rfl⟩ rfl rfl rfl (by decide) (by omega) (by omega) (fun z21 h21 => ?_)
      refine xgoto ⟨u59, _, rfl⟩ ?_
      exact ih (t + 1) (w &&& (w - z17)) z21 (by omega) (by omega) la
theorem k_trQ {d i q : Nat} {Ls : List Nat} {hp : amH} {R : xQ} {a b : Int32} (hH : bHk 84 bTT hp) (ha : a.toInt = (q : Int)) (hq : (q : Int) < rN hp 49 0) (hm : rJ hp 50 q = ((jL Ls : Nat) : Int)) (hb : b.toInt = (i : Int)) (hi : i < Ls.length) (hLs : ris Ls) (hl : Ls.length ≤ 35)
    (hR : ∀ r : Int32, r.toInt = ((Ls.getD i 0 : Nat) : Int) → R (.inl (some (.int r))) hp) : xK (d + 1) 59 [.ref 49, .int a, .int b] hp R := by
  refine xin (M := am_m59) rfl rfl rfl ?_
  refine xald 1 ⟨u59, _, rfl⟩ rfl rfl ?_
  refine xild 2 ⟨u59, _, rfl⟩ rfl rfl ?_
  refine xcallC 5 (o := 49) [.int _] [] hH ⟨u59, _, rfl⟩ rfl rfl (by decide) rfl (by decide) rfl ⟨rfl, rfl, rfl, rfl⟩ rfl (k_mkQ hH ha hq (fun z2 h2 => ⟨_, rfl, ?_⟩))
  refine xlst 6 ⟨u59, _, rfl⟩ rfl rfl ?_
  refine xcst 7 (0) ⟨u59, _, rfl⟩ rfl (by decide) (fun z6 h6 => ?_)
  refine xist2 9 ⟨u59, _, rfl⟩ rfl rfl ?_
  exact l59 hH hb hi hLs hl hR i 0 _ _ h6 (by omega) (by rw [h2, hm]; rfl)
/-- a planned exchange: what goes, what comes -/
noncomputable def exO (hp : amH) (A B : List Nat) : Prop := rN hp 62 0 = ((A.length : Nat) : Int) ∧ B.length = A.length ∧ ∀ i, i < A.length → rN hp 63 i = ((A.getD i 0 : Nat) : Int) ∧ rN hp 64 i = ((B.getD i 0 : Nat) : Int)
theorem exO_fr {hp hp1 : amH} {A B : List Nat} (h : exO hp A B) (F : ∀ c k, c = 62 ∨ c = 63 ∨ c = 64 → bFld hp1 c k = bFld hp c k) : exO hp1 A B :=
  ⟨(rN_eq (F 62 0 (Or.inl rfl))).trans h.1, h.2.1, fun i hi => ⟨(rN_eq (F 63 i (Or.inr (Or.inl rfl)))).trans (h.2.2 i hi).1, (rN_eq (F 64 i (Or.inr (Or.inr rfl)))).trans (h.2.2 i hi).2⟩⟩
theorem k_exB {d : Nat} {hp : amH} {R : xQ} {x : Int64} (hH : bHk 84 bTT hp) (hR : ∀ hp1, bHk 84 bTT hp1 → bFx [62] hp hp1 → exO hp1 [] [] → rJ hp1 62 1 = x.toInt → R (.inl none) hp1) : xK d 46 [.ref 62, .long x] hp R := by
  refine xinJ (M := am_m46) rfl rfl rfl ?_
  refine xald 1 ⟨u46, _, rfl⟩ rfl rfl ?_
  refine xcst 2 (0) ⟨u46, _, rfl⟩ rfl (by decide) (fun z1 h1 => ?_)
  refine xputC 5 hH ⟨u46, _, rfl⟩ rfl (by decide) (by decide) rfl rfl (by decide) ⟨rfl, rfl⟩ (by omega) (by omega) (fun hp2 hH2 U2 => ?_)
  have s2 := U2.1
  refine xald 6 ⟨u46, _, rfl⟩ rfl rfl ?_
  refine xlld 7 ⟨u46, _, rfl⟩ rfl rfl ?_
  refine xputJ 10 hH2 ⟨u46, _, rfl⟩ rfl (by decide) (by decide) rfl rfl (by decide) ⟨rfl, rfl⟩ (fun hp7 hH7 U7 => ?_)
  exact xretV ⟨u46, _, rfl⟩ rfl (hR _ hH7 ((bFx_U U2 (by simp)).trans (bY_bx U7 (by simp))) ⟨by rw [rV_ne U7 (by omega)]; exact s2.trans h1, rfl, fun i hi => absurd hi (Nat.not_lt_zero i)⟩ (rV_J U7))
theorem k_exP {d m n : Nat} {A B : List Nat} {hp : amH} {R : xQ} {a b : Int32} (hH : bHk 84 bTT hp) (hE : exO hp A B) (hl : A.length < 12) (ha : a.toInt = (m : Int)) (hb : b.toInt = (n : Int)) (hR : ∀ hp1, bHk 84 bTT hp1 → bFx [62, 63, 64] hp hp1 → exO hp1 (A ++ [m]) (B ++ [n]) → rJ hp1 62 1 = rJ hp 62 1 → R (.inl none) hp1) : xK d 47 [.ref 62, .int a, .int b] hp R := by
  obtain ⟨E1, E2, E3⟩ := hE
  have em := aMin a
  have ex := aMax a
  have fm := aMin b
  have fx := aMax b
  refine xin (M := am_m47) rfl rfl rfl ?_
  refine xald 1 ⟨u47, _, rfl⟩ rfl rfl ?_
  refine xgetC 4 hH ⟨u47, _, rfl⟩ rfl (by decide) (by decide) rfl rfl (by decide) (fun z1 h1 => ?_)
  refine xbip 6 (12) ⟨u47, _, rfl⟩ rfl (by decide) (fun z4 h4 => ?_)
  refine xcmp_ge 9 ⟨u47, _, rfl⟩ rfl (fun c6 => ?_) (fun c6 => ?_)
  · omega
  · refine xald 10 ⟨u47, _, rfl⟩ rfl rfl ?_
    refine xgetD 13 (63) hH ⟨u47, _, rfl⟩ rfl (by decide) (by decide) rfl rfl (by decide) ?_
    refine xald 14 ⟨u47, _, rfl⟩ rfl rfl ?_
    refine xgetC 17 hH ⟨u47, _, rfl⟩ rfl (by decide) (by decide) rfl rfl (by decide) (fun z14 h14 => ?_)
    refine xild 18 ⟨u47, _, rfl⟩ rfl rfl ?_
    refine xiast 19 (z14).toInt.toNat hH ⟨u47, _, rfl⟩ rfl (by decide) rfl (by omega) (by omega) (by omega) (by omega) (fun hp18 hH18 U18 => ?_)
    have s18 := U18.1
    have n18_62_0 : rN hp18 (62) 0 = rN hp (62) 0 := rU_ne U18 (by first | decide | exact (fun z => absurd z.1 (by decide)) | omega)
    refine xald 20 ⟨u47, _, rfl⟩ rfl rfl ?_
    refine xgetD 23 (64) hH18 ⟨u47, _, rfl⟩ rfl (by decide) (by decide) rfl rfl (by decide) ?_
    refine xald 24 ⟨u47, _, rfl⟩ rfl rfl ?_
    refine xgetC 27 hH18 ⟨u47, _, rfl⟩ rfl (by decide) (by decide) rfl rfl (by decide) (fun z24 h24 => ?_)
    refine xild 28 ⟨u47, _, rfl⟩ rfl rfl ?_
    refine xiast 29 (z24).toInt.toNat hH18 ⟨u47, _, rfl⟩ rfl (by decide) rfl (by omega) (by omega) (by omega) (by omega) (fun hp28 hH28 U28 => ?_)
    have s28 := U28.1
    have n28_62_0 : rN hp28 (62) 0 = rN hp18 (62) 0 := rU_ne U28 (by first | decide | exact (fun z => absurd z.1 (by decide)) | omega)
    refine xald 30 ⟨u47, _, rfl⟩ rfl rfl ?_
    refine xdup 31 ⟨u47, _, rfl⟩ rfl rfl ?_
    refine xgetC 34 hH28 ⟨u47, _, rfl⟩ rfl (by decide) (by decide) rfl rfl (by decide) (fun z31 h31 => ?_)
    refine xcst 35 (1) ⟨u47, _, rfl⟩ rfl (by decide) (fun z34 h34 => ?_)
    refine xadd 36 _ ⟨u47, _, rfl⟩ rfl rfl (by omega) (by omega) (fun z35 h35 => ?_)
    refine xputC 39 hH28 ⟨u47, _, rfl⟩ rfl (by decide) (by decide) rfl rfl (by decide) ⟨rfl, rfl⟩ (by omega) (by omega) (fun hp36 hH36 U36 => ?_)
    have s36 := U36.1
    refine xretV ⟨u47, _, rfl⟩ rfl (hR _ hH36 (((bFx_U U18 (by simp)).trans (bFx_U U28 (by simp))).trans (bFx_U U36 (by simp))) ⟨?_, by rw [List.length_append, List.length_append, E2]; rfl, fun i hi => ?_⟩ ?_)
    · rw [List.length_append, List.length_singleton]
      omega
    · rw [List.length_append, List.length_singleton] at hi
      have u18 := U18.1
      have u28 := U28.1
      by_cases g : i = A.length
      · subst g
        rw [gd_end, show A.length = B.length from E2.symm, gd_end, E2]
        refine ⟨?_, ?_⟩
        · rw [rU_ne U36 (by first | decide | exact (fun z => absurd z.1 (by decide)) | omega), rU_ne U28 (by first | decide | exact (fun z => absurd z.1 (by decide)) | omega), show A.length = z14.toInt.toNat by omega, u18]
          exact ha
        · rw [rU_ne U36 (by first | decide | exact (fun z => absurd z.1 (by decide)) | omega), show A.length = z24.toInt.toNat by omega, u28]
          exact hb
      · rw [gd_app (by omega), gd_app (by omega)]
        obtain ⟨k1, k2⟩ := E3 i (by omega)
        refine ⟨?_, ?_⟩
        · rw [rU_ne U36 (by first | decide | exact (fun z => absurd z.1 (by decide)) | omega), rU_ne U28 (by first | decide | exact (fun z => absurd z.1 (by decide)) | omega), rU_ne U18 (by first | decide | exact (fun z => absurd z.1 (by decide)) | omega)]
          exact k1
        · rw [rU_ne U36 (by first | decide | exact (fun z => absurd z.1 (by decide)) | omega), rU_ne U28 (by first | decide | exact (fun z => absurd z.1 (by decide)) | omega), rU_ne U18 (by first | decide | exact (fun z => absurd z.1 (by decide)) | omega)]
          exact k2
    · rw [rJ_ne U36 (by omega), rJ_ne U28 (by omega), rJ_ne U18 (by omega)]
end
/-! ##### 19.m.084.38g ##### -/
section
/-! ===== a quadrilateral's switch planned; an exchange made ===== -/
theorem jL_or {x : Nat} {r : List Nat} (h : ∀ y, y ∈ r → x < y) : jL (x :: r) = jL r ||| 2 ^ x := by
  obtain ⟨s, e⟩ := jL_mul (L := r) (x := x) h
  have l1 : 2 ^ x < 2 ^ (x + 1) := by rw [p2s]; have := Nat.two_pow_pos x; omega
  show 2 ^ x + jL r = _
  rw [e, ← Nat.two_pow_add_eq_or_of_lt l1, Nat.add_comm]
theorem jL_4 {i j k l : Nat} (h1 : i < j) (h2 : j < k) (h3 : k < l) : 2 ^ i ||| 2 ^ j ||| 2 ^ k ||| 2 ^ l = jL [i, j, k, l] := by
  rw [jL_or (fun y hy => by simp at hy; omega), jL_or (fun y hy => by simp at hy; omega), jL_or (fun y hy => by simp at hy; omega), jL_or (fun y hy => by simp at hy)]
  apply Nat.eq_of_testBit_eq
  intro u
  show _ = (0 ||| 2 ^ l ||| 2 ^ k ||| 2 ^ j ||| 2 ^ i).testBit u
  simp only [Nat.testBit_or, Nat.zero_testBit]
  cases (2 ^ i).testBit u <;> cases (2 ^ j).testBit u <;> cases (2 ^ k).testBit u <;> cases (2 ^ l).testBit u <;> rfl
/-- the numbers of a quadrilateral's triples -/
noncomputable def qL (T : sT) (n : Nat) : List Nat := [n / 1225, n / 35 % 35, n % 35, ql T n]
/-- what is known of a quadrilateral by its place -/
theorem qd_at {hp : amH} {V : Nat} {T : sT} (hT : sOk V T) (hQ : qdN hp T 42875) {q n : Nat} (hq : q < nQ T) (hn : (fL (qdB T) 42875).getD q 0 = n) : n < 42875 ∧ qdB T n = true ∧ (q : Int) < rN hp 49 0 ∧ rJ hp 50 q = ((jL (qL T n) : Nat) : Int) ∧ rN hp 51 q = ((qU T n : Nat) : Int) ∧ ris (qL T n) ∧ ∀ t, t ∈ qL T n → t < (trL T 225).length := by
  obtain ⟨g1, g2, g3⟩ := fL_get (B := qdB T) 42875 q hq
  obtain ⟨Q1, Q2⟩ := hQ
  obtain ⟨k1, k2⟩ := Q2 q hq
  rw [hn] at g1 g2 k1 k2
  obtain ⟨⟨⟨b1, b2, b3, b4⟩, -⟩, ⟨l1, l2, l3⟩, -⟩ := qd_X hT g2 g1
  have l35 := trL_35 hT 225
  have hq : q < (fL (qdB T) 42875).length := hq
  refine ⟨g2, g1, by omega, by rw [k1, jL_4 l1 l2 l3]; rfl, k2, ⟨⟨by omega, fun y hy => by simp at hy; omega⟩, ⟨by omega, fun y hy => by simp at hy; omega⟩, ⟨by omega, fun y hy => by simp at hy; omega⟩, ⟨by omega, fun y hy => by simp at hy⟩, trivial⟩, fun t ht => ?_⟩
  unfold qL at ht
  simp only [List.mem_cons, List.not_mem_nil, or_false] at ht
  rcases ht with rfl | rfl | rfl | rfl <;> assumption
theorem tk_succ {L : List Nat} {t : Nat} (h : t < L.length) : L.take (t + 1) = L.take t ++ [L.getD t 0] := by
  rw [List.take_succ, List.getD_eq_getElem?_getD, List.getElem?_eq_getElem h]
  rfl
theorem qC_get {T : sT} {n t : Nat} (h : t < 4) : (qC T n).getD t 0 = ndif (qU T n) (mN T ((qL T n).getD t 0)) ∧ (qG T n).getD t 0 = mN T ((qL T n).getD t 0) := by
  have : t = 0 ∨ t = 1 ∨ t = 2 ∨ t = 3 := by omega
  rcases this with rfl | rfl | rfl | rfl <;> exact ⟨rfl, rfl⟩
theorem l66E {d q n V : Nat} {T : sT} {hp0 : amH} {R : xQ} {a : Int32} (hT : sOk V T) (hQ0 : qdN hp0 T 42875) (hL0 : lsN hp0 3 T 225) (hq : q < nQ T) (hn : (fL (qdB T) 42875).getD q 0 = n) (ha : a.toInt = (q : Int))
    (hR : ∀ hp1, bHk 84 bTT hp1 → bFx [62, 63, 64] hp0 hp1 → exO hp1 (qG T n) (qC T n) → rJ hp1 62 1 = ((jL (qL T n) : Nat) : Int) → R (.inl none) hp1) :
    ∀ (jj t : Nat) (wt : Int32) (v5 : Option Value) (hp : amH), wt.toInt = (t : Int) → t + jj = 4 → bHk 84 bTT hp → bFx [62, 63, 64] hp0 hp → exO hp ((qG T n).take t) ((qC T n).take t) → rJ hp 62 1 = ((jL (qL T n) : Nat) : Int) → xV (d + 2) am_m66 12 [some (.ref 49), some (.ref 3), some (.int a), some (.ref 62), some (.int wt), v5] [] hp R := by
  intro jj
  induction jj with
  | zero =>
    intro t wt v5 hp hwt hj hH hF hE hJ
    have et : t = 4 := by omega
    subst et
    have hE : exO hp (qG T n) (qC T n) := hE
    refine xild2 14 ⟨u66, _, rfl⟩ rfl rfl ?_
    refine xcst 15 (4) ⟨u66, _, rfl⟩ rfl (by decide) (fun z14 h14 => ?_)
    refine xcmp_ge 18 ⟨u66, _, rfl⟩ rfl (fun c15 => ?_) (fun c15 => ?_)
    · exact xretV ⟨u66, _, rfl⟩ rfl (hR _ hH hF hE hJ)
    · omega
  | succ jj ih =>
    intro t wt v5 hp hwt hj hH hF hE hJ
    have hQ : qdN hp T 42875 := qdN_fr hQ0 (fun c k hc => hF c k (by simp; omega))
    have hL : lsN hp 3 T 225 := lsN_fr hL0 (bFx_n hF (by simp)) (fun _ => bFx_n hF (by simp)) (fun _ => bFx_n hF (by simp))
    obtain ⟨n1, n2, n3, n4, n5, n6, n7⟩ := qd_at hT hQ hq hn
    have hmem : (qL T n).getD t 0 ∈ qL T n := by
      rw [List.getD_eq_getElem?_getD, List.getElem?_eq_getElem (show t < (qL T n).length by show t < 4; omega)]
      exact List.getElem_mem _
    have hlt := n7 _ hmem
    have ml := (mN_lt hT hlt).1
    obtain ⟨c1, c2⟩ := qC_get (T := T) (n := n) (t := t) (by omega)
    have uU : qU T n < 32768 := by
      obtain ⟨⟨⟨b1, b2, b3, b4⟩, -⟩, -, -, hRn⟩ := qd_X hT n1 n2
      unfold qU
      rw [hRn]
      exact Nat.or_lt_two_pow (n := 15) (Nat.or_lt_two_pow (n := 15) (mN_lt hT b1).1 (mN_lt hT b2).1) (mN_lt hT b4).1
    refine xild2 14 ⟨u66, _, rfl⟩ rfl rfl ?_
    refine xcst 15 (4) ⟨u66, _, rfl⟩ rfl (by decide) (fun z14 h14 => ?_)
    refine xcmp_ge 18 ⟨u66, _, rfl⟩ rfl (fun c15 => ?_) (fun c15 => ?_)
    · omega
    · refine xald 19 ⟨u66, _, rfl⟩ rfl rfl ?_
      refine xald 20 ⟨u66, _, rfl⟩ rfl rfl ?_
      refine xild 21 ⟨u66, _, rfl⟩ rfl rfl ?_
      refine xild2 23 ⟨u66, _, rfl⟩ rfl rfl ?_
      refine xcallC 26 (o := 49) [.int _, .int _] [.ref 3] hH ⟨u66, _, rfl⟩ rfl rfl (by decide) rfl (by decide) rfl ⟨rfl, rfl, rfl, rfl⟩ rfl (k_trQ hH ha n3 n4 hwt (i := t) (by show t < 4; omega) n6 (by show 4 ≤ 35; decide) (fun z23 h23 => ⟨_, rfl, ?_⟩))
      refine xcallC 29 (o := 3) [.int _] [] hH ⟨u66, _, rfl⟩ rfl rfl (by decide) rfl (by decide) rfl ⟨rfl, rfl, rfl, rfl⟩ rfl (k_setL hH hL h23 hlt (fun z26 h26 => ⟨_, rfl, ?_⟩))
      refine xist2 31 ⟨u66, _, rfl⟩ rfl rfl ?_
      refine xald 32 ⟨u66, _, rfl⟩ rfl rfl ?_
      refine xild2 34 ⟨u66, _, rfl⟩ rfl rfl ?_
      refine xald 35 ⟨u66, _, rfl⟩ rfl rfl ?_
      refine xild 36 ⟨u66, _, rfl⟩ rfl rfl ?_
      refine xcallC 39 (o := 49) [.int _] [.int _, .ref 62] hH ⟨u66, _, rfl⟩ rfl rfl (by decide) rfl (by decide) rfl ⟨rfl, rfl, rfl, rfl⟩ rfl (k_ptQ hH ha n3 (fun z36 h36 => ⟨_, rfl, ?_⟩))
      rw [n5] at h36
      refine xild2 41 ⟨u66, _, rfl⟩ rfl rfl ?_
      refine xcst 42 (-1) ⟨u66, _, rfl⟩ rfl (by decide) (fun z41 h41 => ?_)
      refine xxor 43 ⟨u66, _, rfl⟩ rfl ?_
      refine xand 44 ⟨u66, _, rfl⟩ rfl ?_
      refine xcallC 47 (o := 62) [.int _, .int _] [] hH ⟨u66, _, rfl⟩ rfl rfl (by decide) rfl (by decide) rfl ⟨rfl, rfl, rfl, rfl⟩ rfl (k_exP hH hE (m := mN T ((qL T n).getD t 0)) (n := ndif (qU T n) (mN T ((qL T n).getD t 0))) (by rw [List.length_take]; omega) h26 (i_nd h36 h26 uU (by omega) h41) (fun hp44 hH44 F44 E44 J44 => ⟨_, rfl, ?_⟩))
      rw [← c1, ← c2, ← tk_succ (show t < (qG T n).length by show t < 4; omega), ← tk_succ (show t < (qC T n).length by show t < 4; omega)] at E44
      refine xinc 50 (1) ⟨u66, _, rfl⟩ rfl rfl rfl (by decide) (by omega) (by omega) (fun z47 h47 => ?_)
      refine xgoto ⟨u66, _, rfl⟩ ?_
      exact ih (t + 1) z47 _ hp44 (by omega) (by omega) hH44 (hF.trans (F44.mono (by simp))) E44 (J44.trans hJ)
theorem k_plQ {d q n V : Nat} {T : sT} {hp : amH} {R : xQ} {a : Int32} (hH : bHk 84 bTT hp) (hT : sOk V T) (hQ : qdN hp T 42875) (hL : lsN hp 3 T 225) (hq : q < nQ T) (hn : (fL (qdB T) 42875).getD q 0 = n) (ha : a.toInt = (q : Int))
    (hR : ∀ hp1, bHk 84 bTT hp1 → bFx [62, 63, 64] hp hp1 → exO hp1 (qG T n) (qC T n) → rJ hp1 62 1 = ((jL (qL T n) : Nat) : Int) → R (.inl none) hp1) : xK (d + 2) 66 [.ref 49, .ref 3, .int a, .ref 62] hp R := by
  obtain ⟨n1, n2, n3, n4, n5, n6, n7⟩ := qd_at hT hQ hq hn
  refine xin (M := am_m66) rfl rfl rfl ?_
  refine xald 1 ⟨u66, _, rfl⟩ rfl rfl ?_
  refine xald 2 ⟨u66, _, rfl⟩ rfl rfl ?_
  refine xild 3 ⟨u66, _, rfl⟩ rfl rfl ?_
  refine xcallC 6 (o := 49) [.int _] [.ref 62] hH ⟨u66, _, rfl⟩ rfl rfl (by decide) rfl (by decide) rfl ⟨rfl, rfl, rfl, rfl⟩ rfl (k_mkQ hH ha n3 (fun z3 h3 => ⟨_, rfl, ?_⟩))
  refine xcallC 9 (o := 62) [.long _] [] hH ⟨u66, _, rfl⟩ rfl rfl (by decide) rfl (by decide) rfl ⟨rfl, rfl, rfl, rfl⟩ rfl (k_exB hH (fun hp6 hH6 F6 E6 J6 => ⟨_, rfl, ?_⟩))
  refine xcst 10 (0) ⟨u66, _, rfl⟩ rfl (by decide) (fun z9 h9 => ?_)
  refine xist2 12 ⟨u66, _, rfl⟩ rfl rfl ?_
  refine xpad 1 ?_
  exact l66E hT (qdN_fr hQ (fun c k hc => F6 c k (by simp; omega))) (lsN_fr hL (bFx_n F6 (by simp)) (fun _ => bFx_n F6 (by simp)) (fun _ => bFx_n F6 (by simp))) hq hn ha (fun hp1 g1 g2 g3 g4 => hR hp1 g1 ((F6.mono (by simp)).trans g2) g3 g4) 4 0 _ _ hp6 (by omega) (by omega) hH6 bFx.refl E6 (by rw [J6, h3, n4])
/-- what a row of triples makes, one put behind the other -/
noncomputable def cwM (V : Nat) (T : sT) (m : Nat) : Nat := cw V T (memN m 0).toNat (memN m 1).toNat (memN m 2).toNat
noncomputable def cwL (V : Nat) (T : sT) : List Nat → Nat
  | [] => 0
  | m :: r => cwM V (uPut T m) m + cwL V (uPut T m) r
theorem cw_le {V : Nat} {T : sT} {x y z : Nat} : cw V T x y z ≤ V := by
  have := sm_le (f := fun a => iv (¬ T x a = -1 ∧ ¬ a = y ∧ ¬ a = z ∧ ¬ T y a = -1 ∧ T y a = T z (T x a).toNat)) (g := fun _ => 1) V (fun i _ => iv_le)
  rw [sm_const] at this
  unfold cw
  omega
theorem cwL_le {V : Nat} (hV : V ≤ 15) : ∀ (L : List Nat) (T : sT), cwL V T L ≤ 15 * L.length
  | [], _ => Nat.zero_le _
  | m :: r, T => by
    have i := cwL_le hV r (uPut T m)
    have j : cwM V (uPut T m) m ≤ V := cw_le
    show cwM V (uPut T m) m + cwL V (uPut T m) r ≤ 15 * (r.length + 1)
    omega
theorem cwM_3 {V x y z : Nat} {T : sT} (h1 : x < y) (h2 : y < z) (h3 : z < 15) : cwM V T (m3 x y z) = cw V T x y z := by
  obtain ⟨a, b, c⟩ := mem3 h1 h2 h3
  unfold cwM
  rw [a, b, c, Int.toNat_natCast, Int.toNat_natCast, Int.toNat_natCast]
theorem nQ_cwL {V : Nat} : ∀ {L : List Nat} {T : sT}, sOk V T → ptOk V T L → nQ (uPs T L) = nQ T + cwL V T L
  | [], T, _, _ => (Nat.add_zero (nQ T)).symm
  | m :: r, T, hT, h => by
    obtain ⟨⟨x, y, z, h1, h2, h3, e, f⟩, h4⟩ := id h
    have hV := hT.2.1
    have i := nQ_cwL (L := r) (sOk_uPut hT h.1) h4
    have j := nQ_put hT (x := x) (y := y) (z := z) (by omega) (by omega) h3 (by omega) (by omega) (by omega) f
    have k : uPut T m = sPut T x y z := by rw [e]; exact uPut_3 T (by omega) (by omega) (by omega) (by omega) (by omega) (by omega)
    have w : cwM V (uPut T m) m = cw V (sPut T x y z) x y z := by rw [k, e, cwM_3 h1 h2 (by omega)]
    show nQ (uPs (uPut T m) r) = nQ T + (cwM V (uPut T m) m + cwL V (uPut T m) r)
    rw [← k] at j w
    rw [i, w]
    omega
theorem u48 : bUp 0 am_m48.1 = true := by decide +kernel
theorem l48a {d o V : Nat} {T : sT} {G C : List Nat} {hp0 : amH} {R : xQ} (ho : bo o) (hE0 : exO hp0 G C)
    (hQ : ∀ hp1 w, bHk 84 bTT hp1 → bFx [o + 1, o + 3] hp0 hp1 → bdOk hp1 o V (uTs T G) → xV (d + 3) am_m48 35 [some (.ref 62), some (.ref o), some (.int w)] [] hp1 R) :
    ∀ (B A : List Nat) (wt : Int32) (hp : amH), G = A ++ B → wt.toInt = ((A.length : Nat) : Int) → tkOk (uTs T A) B → bHk 84 bTT hp → bFx [o + 1, o + 3] hp0 hp → bdOk hp o V (uTs T A) → xV (d + 3) am_m48 2 [some (.ref 62), some (.ref o), some (.int wt)] [] hp R := by
  have T62 := (show bTT 62 = some (2, 4, [.inl (2147483648, 2147483660), .inr (.inl 1), .inr (.inr [63]), .inr (.inr [64])]) from rfl)
  intro B
  induction B with
  | nil =>
    intro A wt hp hG hwt hk hH hF hB
    rw [List.append_nil] at hG
    subst hG
    have hE : exO hp G C := exO_fr hE0 (fun c k hc => hF c k (by rcases ho with rfl | rfl <;> simp <;> omega))
    have E1 := hE.1
    refine xild 3 ⟨u48, _, rfl⟩ rfl rfl ?_
    refine xald 4 ⟨u48, _, rfl⟩ rfl rfl ?_
    refine xgetC 7 hH ⟨u48, _, rfl⟩ rfl (by decide) (by decide) rfl rfl (by decide) (fun z4 h4 => ?_)
    refine xcmp_ge 10 ⟨u48, _, rfl⟩ rfl (fun c7 => ?_) (fun c7 => ?_)
    · exact hQ hp _ hH hF hB
    · omega
  | cons m r ih =>
    intro A wt hp hG hwt hk hH hF hB
    have hE : exO hp G C := exO_fr hE0 (fun c k hc => hF c k (by rcases ho with rfl | rfl <;> simp <;> omega))
    have E1 := hE.1
    have q1 := rb_c hH (c := 62) (by decide) T62 (f := 0) rfl (by decide)
    have hlen : G.length = A.length + (r.length + 1) := by rw [hG, List.length_append, List.length_cons]
    obtain ⟨⟨x, y, z, g1, g2, g3, g4⟩, hk2⟩ := hk
    have e3 := (hE.2.2 A.length (by omega)).1
    rw [hG, gt_app, g3] at e3
    have eT : uTake (uTs T A) m = sTake (uTs T A) x y z := by rw [g3]; exact uTake_3 _
    have eA : uTs T (A ++ [m]) = sTake (uTs T A) x y z := by rw [uTs_app]; exact eT
    rw [eT, ← eA] at hk2
    refine xild 3 ⟨u48, _, rfl⟩ rfl rfl ?_
    refine xald 4 ⟨u48, _, rfl⟩ rfl rfl ?_
    refine xgetC 7 hH ⟨u48, _, rfl⟩ rfl (by decide) (by decide) rfl rfl (by decide) (fun z4 h4 => ?_)
    refine xcmp_ge 10 ⟨u48, _, rfl⟩ rfl (fun c7 => ?_) (fun c7 => ?_)
    · omega
    · refine xild 11 ⟨u48, _, rfl⟩ rfl rfl ?_
      refine xald 12 ⟨u48, _, rfl⟩ rfl rfl ?_
      refine xgetD 15 (63) hH ⟨u48, _, rfl⟩ rfl (by decide) (by decide) rfl rfl (by decide) ?_
      refine xlen 16 hH ⟨u48, _, rfl⟩ rfl (by decide) rfl (by decide) (by decide) (fun z15 h15 => ?_)
      refine xcmp_ge 19 ⟨u48, _, rfl⟩ rfl (fun c16 => ?_) (fun c16 => ?_)
      · omega
      · refine xald 20 ⟨u48, _, rfl⟩ rfl rfl ?_
        refine xald 21 ⟨u48, _, rfl⟩ rfl rfl ?_
        refine xgetD 24 (63) hH ⟨u48, _, rfl⟩ rfl (by decide) (by decide) rfl rfl (by decide) ?_
        refine xild 25 ⟨u48, _, rfl⟩ rfl rfl ?_
        refine xiald 26 (wt).toInt.toNat hH ⟨u48, _, rfl⟩ rfl (by decide) rfl (by omega) (by omega) (fun z25 h25 => ?_)
        refine xcallC 29 (o := o) [.int _] [] hH ⟨u48, _, rfl⟩ rfl rfl (bo_lt ho) (bo_T ho) (by decide) rfl ⟨rfl, rfl, rfl, rfl⟩ rfl (k_bdropU ho hH hB (a := x) (b := y) (c := z) (by rw [h25, show wt.toInt.toNat = A.length by omega]; exact e3) g4 (fun hp26 hH26 F26 B26 => ⟨_, rfl, ?_⟩))
        rw [← eA] at B26
        refine xinc 32 (1) ⟨u48, _, rfl⟩ rfl rfl rfl (by decide) (by omega) (by omega) (fun z29 h29 => ?_)
        refine xgoto ⟨u48, _, rfl⟩ ?_
        exact ih (A ++ [m]) z29 hp26 (by rw [hG, List.append_assoc]; rfl) (by rw [List.length_append, List.length_singleton]; omega) hk2 hH26 (hF.trans F26) B26
theorem l48b {d o V : Nat} {T : sT} {G C : List Nat} {hp0 : amH} {R : xQ} {tot : Nat} (ho : bo o) (hE0 : exO hp0 G C) (htot : tot ≤ 180)
    (hR : ∀ (z : Int32) hp1, bHk 84 bTT hp1 → bFx [o + 1, o + 3] hp0 hp1 → bdOk hp1 o V (uPs T C) → z.toInt = (tot : Int) → R (.inl (some (.int z))) hp1) :
    ∀ (B A : List Nat) (w wt : Int32) (hp : amH), C = A ++ B → wt.toInt = ((A.length : Nat) : Int) → ptOk V (uPs T A) B → w.toInt + ((cwL V (uPs T A) B : Nat) : Int) = (tot : Int) → 0 ≤ w.toInt → bHk 84 bTT hp → bFx [o + 1, o + 3] hp0 hp → bdOk hp o V (uPs T A) → xV (d + 3) am_m48 39 [some (.ref 62), some (.ref o), some (.int w), some (.int wt)] [] hp R := by
  have T62 := (show bTT 62 = some (2, 4, [.inl (2147483648, 2147483660), .inr (.inl 1), .inr (.inr [63]), .inr (.inr [64])]) from rfl)
  intro B
  induction B with
  | nil =>
    intro A w wt hp hG hwt hk hw h0 hH hF hB
    rw [List.append_nil] at hG
    subst hG
    have hE : exO hp G C := exO_fr hE0 (fun c k hc => hF c k (by rcases ho with rfl | rfl <;> simp <;> omega))
    obtain ⟨E1, E2, -⟩ := hE
    have hw : w.toInt + ((0 : Nat) : Int) = (tot : Int) := hw
    refine xild 40 ⟨u48, _, rfl⟩ rfl rfl ?_
    refine xald 41 ⟨u48, _, rfl⟩ rfl rfl ?_
    refine xgetC 44 hH ⟨u48, _, rfl⟩ rfl (by decide) (by decide) rfl rfl (by decide) (fun z41 h41 => ?_)
    refine xcmp_ge 47 ⟨u48, _, rfl⟩ rfl (fun c44 => ?_) (fun c44 => ?_)
    · refine xild 86 ⟨u48, _, rfl⟩ rfl rfl ?_
      exact xret ⟨u48, _, rfl⟩ rfl (hR _ hp hH hF hB (by omega))
    · omega
  | cons m r ih =>
    intro A w wt hp hG hwt hk hw h0 hH hF hB
    have hE : exO hp G C := exO_fr hE0 (fun c k hc => hF c k (by rcases ho with rfl | rfl <;> simp <;> omega))
    obtain ⟨E1, E2, E3⟩ := hE
    have q1 := rb_c hH (c := 62) (by decide) T62 (f := 0) rfl (by decide)
    have hlen : C.length = A.length + (r.length + 1) := by rw [hG, List.length_append, List.length_cons]
    have hT := hB.2.1
    have hV := hT.2.1
    obtain ⟨⟨x, y, z, g1, g2, g3, g4, g5⟩, hk2⟩ := hk
    have e3 := (E3 A.length (by omega)).2
    rw [hG, gt_app, g4] at e3
    have eT : uPut (uPs T A) m = sPut (uPs T A) x y z := by rw [g4]; exact uPut_3 _ (by omega) (by omega) (by omega) (by omega) (by omega) (by omega)
    have eA : uPs T (A ++ [m]) = sPut (uPs T A) x y z := by rw [uPs_app]; exact eT
    have ec : cwL V (uPs T A) (m :: r) = cw V (sPut (uPs T A) x y z) x y z + cwL V (uPs T (A ++ [m])) r := by
      show cwM V (uPut (uPs T A) m) m + cwL V (uPut (uPs T A) m) r = _
      rw [eT, eA, g4, cwM_3 g1 g2 (by omega)]
    rw [ec] at hw
    rw [eT, ← eA] at hk2
    refine xild 40 ⟨u48, _, rfl⟩ rfl rfl ?_
    refine xald 41 ⟨u48, _, rfl⟩ rfl rfl ?_
    refine xgetC 44 hH ⟨u48, _, rfl⟩ rfl (by decide) (by decide) rfl rfl (by decide) (fun z41 h41 => ?_)
    refine xcmp_ge 47 ⟨u48, _, rfl⟩ rfl (fun c44 => ?_) (fun c44 => ?_)
    · omega
    · refine xild 48 ⟨u48, _, rfl⟩ rfl rfl ?_
      refine xald 49 ⟨u48, _, rfl⟩ rfl rfl ?_
      refine xgetD 52 (64) hH ⟨u48, _, rfl⟩ rfl (by decide) (by decide) rfl rfl (by decide) ?_
      refine xlen 53 hH ⟨u48, _, rfl⟩ rfl (by decide) rfl (by decide) (by decide) (fun z52 h52 => ?_)
      refine xcmp_ge 56 ⟨u48, _, rfl⟩ rfl (fun c53 => ?_) (fun c53 => ?_)
      · omega
      · refine xald 57 ⟨u48, _, rfl⟩ rfl rfl ?_
        refine xald 58 ⟨u48, _, rfl⟩ rfl rfl ?_
        refine xgetD 61 (64) hH ⟨u48, _, rfl⟩ rfl (by decide) (by decide) rfl rfl (by decide) ?_
        refine xild 62 ⟨u48, _, rfl⟩ rfl rfl ?_
        refine xiald 63 (wt).toInt.toNat hH ⟨u48, _, rfl⟩ rfl (by decide) rfl (by omega) (by omega) (fun z62 h62 => ?_)
        refine xcallC 66 (o := o) [.int _] [] hH ⟨u48, _, rfl⟩ rfl rfl (bo_lt ho) (bo_T ho) (by decide) rfl ⟨rfl, rfl, rfl, rfl⟩ rfl (k_bputU ho hH hB (a := x) (b := y) (c := z) (by rw [h62, show wt.toInt.toNat = A.length by omega]; exact e3) (by omega) (by omega) (by omega) (by omega) (by omega) (by omega) g5 (fun hp63 hH63 F63 B63 => ⟨_, rfl, ?_⟩))
        have e64 : rN hp63 64 A.length = rN hp 64 A.length := bFx_n F63 (by rcases ho with rfl | rfl <;> simp)
        refine xild 67 ⟨u48, _, rfl⟩ rfl rfl ?_
        refine xald 68 ⟨u48, _, rfl⟩ rfl rfl ?_
        refine xald 69 ⟨u48, _, rfl⟩ rfl rfl ?_
        refine xgetD 72 (64) hH63 ⟨u48, _, rfl⟩ rfl (by decide) (by decide) rfl rfl (by decide) ?_
        refine xild 73 ⟨u48, _, rfl⟩ rfl rfl ?_
        refine xiald 74 (wt).toInt.toNat hH63 ⟨u48, _, rfl⟩ rfl (by decide) rfl (by omega) (by omega) (fun z73 h73 => ?_)
        refine xcallS 77 [.ref (o), .int _] [.int _] hH63 ⟨u48, _, rfl⟩ rfl rfl rfl rfl (Bool.or_true _) (k_cnt ho hH63 B63 (x := x) (y := y) (z := z) (by rw [h73, show wt.toInt.toNat = A.length by omega, e64]; exact e3) g1 g2 g3 (fun z74 h74 => ⟨_, rfl, ?_⟩))
        refine xadd 78 _ ⟨u48, _, rfl⟩ rfl rfl (by omega) (by omega) (fun z77 h77 => ?_)
        refine xist 79 ⟨u48, _, rfl⟩ rfl rfl ?_
        refine xinc 82 (1) ⟨u48, _, rfl⟩ rfl rfl rfl (by decide) (by omega) (by omega) (fun z79 h79 => ?_)
        refine xgoto ⟨u48, _, rfl⟩ ?_
        exact ih (A ++ [m]) z77 z79 hp63 (by rw [hG, List.append_assoc]; rfl) (by rw [List.length_append, List.length_singleton]; omega) hk2 (by omega) (by omega) hH63 (hF.trans F63) (by rw [eA]; exact B63)
theorem k_exA {d o V : Nat} {T : sT} {G C : List Nat} {hp : amH} {R : xQ} (ho : bo o) (hH : bHk 84 bTT hp) (hE : exO hp G C) (hB : bdOk hp o V T) (hG : tkOk T G) (hC : ptOk V (uTs T G) C)
    (hR : ∀ (z : Int32) hp1, bHk 84 bTT hp1 → bFx [o + 1, o + 3] hp hp1 → bdOk hp1 o V (uPs (uTs T G) C) → z.toInt = ((cwL V (uTs T G) C : Nat) : Int) → R (.inl (some (.int z))) hp1) : xK (d + 3) 48 [.ref 62, .ref o] hp R := by
  have q1 := rb_c hH (c := 62) (by decide) (show bTT 62 = some (2, 4, [.inl (2147483648, 2147483660), .inr (.inl 1), .inr (.inr [63]), .inr (.inr [64])]) from rfl) (f := 0) rfl (by decide)
  have bc := cwL_le hB.2.1.2.1 C (uTs T G)
  obtain ⟨E1, E2, -⟩ := id hE
  refine xin (M := am_m48) rfl rfl (by unfold xAv; simp [amOk, bo_lt ho, Value.category]) ?_
  refine xcst 1 (0) ⟨u48, _, rfl⟩ rfl (by decide) (fun z0 h0 => ?_)
  refine xist 2 ⟨u48, _, rfl⟩ rfl rfl ?_
  refine l48a ho hE (fun hp1 w1 g1 g2 g3 => ?_) G [] _ hp rfl (by show z0.toInt = ((0 : Nat) : Int); omega) hG hH bFx.refl hB
  have hE1 : exO hp1 G C := exO_fr hE (fun c k hc => g2 c k (by rcases ho with rfl | rfl <;> simp <;> omega))
  refine xcst 36 (0) ⟨u48, _, rfl⟩ rfl (by decide) (fun z35 h35 => ?_)
  refine xist 37 ⟨u48, _, rfl⟩ rfl rfl ?_
  refine xcst 38 (0) ⟨u48, _, rfl⟩ rfl (by decide) (fun z37 h37 => ?_)
  refine xist 39 ⟨u48, _, rfl⟩ rfl rfl ?_
  exact l48b ho hE1 (by omega) (fun z hp2 k1 k2 k3 k4 => hR z hp2 k1 (g2.trans k2) k3 k4) C [] _ _ hp1 rfl (by show z37.toInt = ((0 : Nat) : Int); omega) hC (by show z35.toInt + ((cwL V (uTs T G) C : Nat) : Int) = _; omega) (by omega) g1 bFx.refl g3
end
/-! ##### 19.m.085.38h ##### -/
section
/-! ===== what an exchange loses; the best switch; descending (pure) ===== -/
theorem fL_cP {B h : Nat → Bool} : ∀ n, (fL B n).countP h = sm (fun i => iv (B i = true ∧ h i = true)) n
  | 0 => rfl
  | n + 1 => by
    show (fL B (n + 1)).countP h = sm (fun i => iv (B i = true ∧ h i = true)) n + iv (B n = true ∧ h n = true)
    by_cases e : B n = true
    · rw [fL_add e, List.countP_append, fL_cP n]
      by_cases g : h n = true
      · rw [iv_t ⟨e, g⟩, List.countP_cons_of_pos g]
        rfl
      · rw [iv_f (fun z => g z.2), List.countP_cons_of_neg g]
        rfl
    · rw [fL_skip e, fL_cP n, iv_f (fun z => e z.1)]
      rfl
/-- a quadrilateral has one of the triples numbered in D -/
noncomputable def hitQ (T : sT) (D : List Nat) (n : Nat) : Bool := (qL T n).any (fun t => decide (t ∈ D))
theorem hitQ_g (T : sT) (D : List Nat) (n : Nat) : hitQ T D n = !(!decide (n / 1225 ∈ D) && (!decide (n / 35 % 35 ∈ D) && (!decide (n % 35 ∈ D) && !decide (ql T n ∈ D)))) := by
  unfold hitQ qL
  simp only [List.any_cons, List.any_nil]
  cases decide (n / 1225 ∈ D) <;> cases decide (n / 35 % 35 ∈ D) <;> cases decide (n % 35 ∈ D) <;> cases decide (ql T n ∈ D) <;> rfl
/-- lost and kept are all -/
theorem nQ_lost {V : Nat} {T : sT} (hT : sOk V T) {D : List Nat} (hD : ∀ t, t ∈ D → t < (trL T 225).length) (hT0 : sOk V (uTs T (D.map (mN T)))) : nQ T = nQ (uTs T (D.map (mN T))) + (fL (qdB T) 42875).countP (hitQ T D) := by
  have a := nQ_take hT hD hT0 (fun t => !decide (t ∈ D)) (fun t => by rw [Bool.not_eq_true', decide_eq_false_iff_not])
  rw [a, fL_cP]
  show (fL (qdB T) 42875).length = _
  rw [fL_sm, ← sm_add]
  refine sm_ext 42875 (fun n _ => ?_)
  rw [iv_b, iv_b, hitQ_g]
  cases (!decide (n / 1225 ∈ D) && (!decide (n / 35 % 35 ∈ D) && (!decide (n % 35 ∈ D) && !decide (ql T n ∈ D)))) <;> simp
theorem jL_test : ∀ {L : List Nat} (u : Nat), ris L → ((jL L).testBit u = true ↔ u ∈ L)
  | [], u, _ => by
    show (0 : Nat).testBit u = true ↔ _
    rw [Nat.zero_testBit]
    simp
  | x :: r, u, h => by
    rw [jL_or h.1.2, Nat.testBit_or, Bool.or_eq_true, jL_test (L := r) u h.2, Nat.testBit_two_pow, decide_eq_true_iff, List.mem_cons]
    exact ⟨fun z => z.elim (fun w => Or.inr w) (fun w => Or.inl w.symm), fun z => z.elim (fun w => Or.inr w.symm) (fun w => Or.inl w)⟩
theorem and_hit {a b : Nat} : (¬ a &&& b = 0) ↔ ∃ u, a.testBit u = true ∧ b.testBit u = true := by
  constructor
  · intro h
    obtain ⟨u, hu⟩ := Nat.exists_testBit_of_ne_zero h
    rw [Nat.testBit_and, Bool.and_eq_true] at hu
    exact ⟨u, hu⟩
  · rintro ⟨u, h1, h2⟩ z
    have : (a &&& b).testBit u = true := by rw [Nat.testBit_and, h1, h2]; rfl
    rw [z, Nat.zero_testBit] at this
    cases this
theorem hitQ_m {T : sT} {D : List Nat} {n x : Nat} (hr : ris (qL T n)) (hx : ∀ u, x.testBit u = true ↔ u ∈ D) : hitQ T D n = true ↔ ¬ jL (qL T n) &&& x = 0 := by
  rw [and_hit]
  unfold hitQ
  rw [List.any_eq_true]
  constructor
  · rintro ⟨t, t1, t2⟩
    exact ⟨t, (jL_test t hr).mpr t1, (hx t).mpr (of_decide_eq_true t2)⟩
  · rintro ⟨t, t1, t2⟩
    exact ⟨t, (jL_test t hr).mp t1, decide_eq_true ((hx t).mp t2)⟩
/-- the code of a quadrilateral by its place -/
noncomputable abbrev cQ2 (T : sT) (q : Nat) : Nat := (fL (qdB T) 42875).getD q 0
/-- the first of the best values below a place -/
noncomputable def bsF (most : Bool) (v : Nat → Nat) : Nat → Int × Int
  | 0 => (-1, 0)
  | q + 1 => if (bsF most v q).1 = -1 ∨ (if most = true then (bsF most v q).2 < (v q : Int) else (v q : Int) < (bsF most v q).2) then ((q : Int), (v q : Int)) else bsF most v q
theorem bsF_in (most : Bool) (v : Nat → Nat) : ∀ q, ((bsF most v q).1 = -1 ∧ q = 0) ∨ ∃ b : Nat, (bsF most v q).1 = (b : Int) ∧ b < q ∧ (bsF most v q).2 = (v b : Int)
  | 0 => Or.inl ⟨rfl, rfl⟩
  | q + 1 => by
    refine Or.inr ?_
    have e : bsF most v (q + 1) = if ((bsF most v q).1 = -1 ∨ (if most = true then (bsF most v q).2 < (v q : Int) else (v q : Int) < (bsF most v q).2)) then ((q : Int), (v q : Int)) else bsF most v q := rfl
    rw [e]
    by_cases h : ((bsF most v q).1 = -1 ∨ (if most = true then (bsF most v q).2 < (v q : Int) else (v q : Int) < (bsF most v q).2))
    · rw [if_pos h]
      exact ⟨q, rfl, Nat.lt_succ_self q, rfl⟩
    · rw [if_neg h]
      rcases bsF_in most v q with ⟨e, -⟩ | ⟨b, b1, b2, b3⟩
      · exact absurd (Or.inl e) h
      · exact ⟨b, b1, by omega, b3⟩
noncomputable def wr (x : Int) : Int := x.bmod 4294967296
/-- what a switch tells the tally -/
noncomputable def tyQ (ty : Nat → Int) : Nat → Int := fun i => if i = 0 then wr (ty 0 + 1) else if i = 2 then wr (ty 2 + 4) else ty i
noncomputable abbrev swV (T : sT) (q : Nat) : Nat := nQ (swQ T (cQ2 T q))
/-- the least switch, so many times -/
noncomputable def dsF : Nat → sT → (Nat → Int) → Nat → sT × (Nat → Int) × Nat
  | 0, T, ty, k => (T, ty, k)
  | f + 1, T, ty, k => if (bsF false (swV T) (nQ T)).1 = -1 ∨ nQ T ≤ swV T (bsF false (swV T) (nQ T)).1.toNat then (T, ty, k) else dsF f (swQ T (cQ2 T (bsF false (swV T) (nQ T)).1.toNat)) (tyQ ty) (k + 1)
/-- the quadrilateral at a place can be switched -/
theorem sw_ok {V : Nat} {T : sT} (hT : sOk V T) {q : Nat} (hq : q < nQ T) : cQ2 T q < 42875 ∧ qdB T (cQ2 T q) = true ∧ tkOk T (qG T (cQ2 T q)) ∧ sOk V (uTs T (qG T (cQ2 T q))) ∧ ptOk V (uTs T (qG T (cQ2 T q))) (qC T (cQ2 T q)) ∧ sOk V (swQ T (cQ2 T q)) := by
  obtain ⟨g1, g2, g3⟩ := fL_get (B := qdB T) 42875 q hq
  exact ⟨g2, g1, qd_ok hT g2 g1⟩
end
