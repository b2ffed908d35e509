/-! ===== a quadrilateral's switch planned; an exchange made ===== -/
theorem jL_or {x : Nat} {r : List Nat} (h : ∀ y, y ∈ r → x < y) : jL (x :: r) = jL r ||| 2 ^ x := by
  obtain ⟨s, e⟩ := jL_mul (L := r) (x := x) h
  have l1 : 2 ^ x < 2 ^ (x + 1) := by rw [p2s]; have := Nat.two_pow_pos x; omega
  show 2 ^ x + jL r = _
  rw [e, ← Nat.two_pow_add_eq_or_of_lt l1, Nat.add_comm]
theorem jL_4 {i j k l : Nat} (h1 : i < j) (h2 : j < k) (h3 : k < l) : 2 ^ i ||| 2 ^ j ||| 2 ^ k ||| 2 ^ l = jL [i, j, k, l] := by
  rw [jL_or (fun y hy => by simp at hy; omega), jL_or (fun y hy => by simp at hy; omega), jL_or (fun y hy => by simp at hy; omega), jL_or (fun y hy => by simp at hy)]
  apply Nat.eq_of_testBit_eq
  intro u
  show _ = (0 ||| 2 ^ l ||| 2 ^ k ||| 2 ^ j ||| 2 ^ i).testBit u
  simp only [Nat.testBit_or, Nat.zero_testBit]
  cases (2 ^ i).testBit u <;> cases (2 ^ j).testBit u <;> cases (2 ^ k).testBit u <;> cases (2 ^ l).testBit u <;> rfl
/-- the numbers of a quadrilateral's triples -/
def qL (T : sT) (n : Nat) : List Nat := [n / 1225, n / 35 % 35, n % 35, ql T n]
/-- what is known of a quadrilateral by its place -/
theorem qd_at {hp : amH} {V : Nat} {T : sT} (hT : sOk V T) (hQ : qdN hp T 42875) {q n : Nat} (hq : q < nQ T) (hn : (fL (qdB T) 42875).getD q 0 = n) : n < 42875 ∧ qdB T n = true ∧ (q : Int) < rN hp 49 0 ∧ rJ hp 50 q = ((jL (qL T n) : Nat) : Int) ∧ rN hp 51 q = ((qU T n : Nat) : Int) ∧ ris (qL T n) ∧ ∀ t, t ∈ qL T n → t < (trL T 225).length := by
  obtain ⟨g1, g2, g3⟩ := fL_get (B := qdB T) 42875 q hq
  obtain ⟨Q1, Q2⟩ := hQ
  obtain ⟨k1, k2⟩ := Q2 q hq
  rw [hn] at g1 g2 k1 k2
  obtain ⟨⟨⟨b1, b2, b3, b4⟩, -⟩, ⟨l1, l2, l3⟩, -⟩ := qd_X hT g2 g1
  have l35 := trL_35 hT 225
  have hq : q < (fL (qdB T) 42875).length := hq
  refine ⟨g2, g1, by omega, by rw [k1, jL_4 l1 l2 l3]; rfl, k2, ⟨⟨by omega, fun y hy => by simp at hy; omega⟩, ⟨by omega, fun y hy => by simp at hy; omega⟩, ⟨by omega, fun y hy => by simp at hy; omega⟩, ⟨by omega, fun y hy => by simp at hy⟩, trivial⟩, fun t ht => ?_⟩
  unfold qL at ht
  simp only [List.mem_cons, List.not_mem_nil, or_false] at ht
  rcases ht with rfl | rfl | rfl | rfl <;> assumption
theorem tk_succ {L : List Nat} {t : Nat} (h : t < L.length) : L.take (t + 1) = L.take t ++ [L.getD t 0] := by
  rw [List.take_succ, List.getD_eq_getElem?_getD, List.getElem?_eq_getElem h]
  rfl
theorem qC_get {T : sT} {n t : Nat} (h : t < 4) : (qC T n).getD t 0 = ndif (qU T n) (mN T ((qL T n).getD t 0)) ∧ (qG T n).getD t 0 = mN T ((qL T n).getD t 0) := by
  have : t = 0 ∨ t = 1 ∨ t = 2 ∨ t = 3 := by omega
  rcases this with rfl | rfl | rfl | rfl <;> exact ⟨rfl, rfl⟩
theorem l66E {d q n V : Nat} {T : sT} {hp0 : amH} {R : xQ} {a : Int32} (hT : sOk V T) (hQ0 : qdN hp0 T 42875) (hL0 : lsN hp0 3 T 225) (hq : q < nQ T) (hn : (fL (qdB T) 42875).getD q 0 = n) (ha : a.toInt = (q : Int))
    (hR : ∀ hp1, bHk 84 bTT hp1 → bFx [62, 63, 64] hp0 hp1 → exO hp1 (qG T n) (qC T n) → rJ hp1 62 1 = ((jL (qL T n) : Nat) : Int) → R (.inl none) hp1) :
    ∀ (jj t : Nat) (wt : Int32) (v5 : Option Value) (hp : amH), wt.toInt = (t : Int) → t + jj = 4 → bHk 84 bTT hp → bFx [62, 63, 64] hp0 hp → exO hp ((qG T n).take t) ((qC T n).take t) → rJ hp 62 1 = ((jL (qL T n) : Nat) : Int) → xV (d + 2) am_m66 12 [some (.ref 49), some (.ref 3), some (.int a), some (.ref 62), some (.int wt), v5] [] hp R := by
  intro jj
  induction jj with
  | zero =>
    intro t wt v5 hp hwt hj hH hF hE hJ
    have et : t = 4 := by omega
    subst et
    have hE : exO hp (qG T n) (qC T n) := hE
    refine xild2 14 ⟨u66, _, rfl⟩ rfl rfl ?_
    refine xcst 15 (4) ⟨u66, _, rfl⟩ rfl (by decide) (fun z14 h14 => ?_)
    refine xcmp_ge 18 ⟨u66, _, rfl⟩ rfl (fun c15 => ?_) (fun c15 => ?_)
    · exact xretV ⟨u66, _, rfl⟩ rfl (hR _ hH hF hE hJ)
    · omega
  | succ jj ih =>
    intro t wt v5 hp hwt hj hH hF hE hJ
    have hQ : qdN hp T 42875 := qdN_fr hQ0 (fun c k hc => hF c k (by simp; omega))
    have hL : lsN hp 3 T 225 := lsN_fr hL0 (bFx_n hF (by simp)) (fun _ => bFx_n hF (by simp)) (fun _ => bFx_n hF (by simp))
    obtain ⟨n1, n2, n3, n4, n5, n6, n7⟩ := qd_at hT hQ hq hn
    have hmem : (qL T n).getD t 0 ∈ qL T n := by
      rw [List.getD_eq_getElem?_getD, List.getElem?_eq_getElem (show t < (qL T n).length by show t < 4; omega)]
      exact List.getElem_mem _
    have hlt := n7 _ hmem
    have ml := (mN_lt hT hlt).1
    obtain ⟨c1, c2⟩ := qC_get (T := T) (n := n) (t := t) (by omega)
    have uU : qU T n < 32768 := by
      obtain ⟨⟨⟨b1, b2, b3, b4⟩, -⟩, -, -, hRn⟩ := qd_X hT n1 n2
      unfold qU
      rw [hRn]
      exact Nat.or_lt_two_pow (n := 15) (Nat.or_lt_two_pow (n := 15) (mN_lt hT b1).1 (mN_lt hT b2).1) (mN_lt hT b4).1
    refine xild2 14 ⟨u66, _, rfl⟩ rfl rfl ?_
    refine xcst 15 (4) ⟨u66, _, rfl⟩ rfl (by decide) (fun z14 h14 => ?_)
    refine xcmp_ge 18 ⟨u66, _, rfl⟩ rfl (fun c15 => ?_) (fun c15 => ?_)
    · omega
    · refine xald 19 ⟨u66, _, rfl⟩ rfl rfl ?_
      refine xald 20 ⟨u66, _, rfl⟩ rfl rfl ?_
      refine xild 21 ⟨u66, _, rfl⟩ rfl rfl ?_
      refine xild2 23 ⟨u66, _, rfl⟩ rfl rfl ?_
      refine xcallC 26 (o := 49) [.int _, .int _] [.ref 3] hH ⟨u66, _, rfl⟩ rfl rfl (by decide) rfl (by decide) rfl ⟨rfl, rfl, rfl, rfl⟩ rfl (k_trQ hH ha n3 n4 hwt (i := t) (by show t < 4; omega) n6 (by show 4 ≤ 35; decide) (fun z23 h23 => ⟨_, rfl, ?_⟩))
      refine xcallC 29 (o := 3) [.int _] [] hH ⟨u66, _, rfl⟩ rfl rfl (by decide) rfl (by decide) rfl ⟨rfl, rfl, rfl, rfl⟩ rfl (k_setL hH hL h23 hlt (fun z26 h26 => ⟨_, rfl, ?_⟩))
      refine xist2 31 ⟨u66, _, rfl⟩ rfl rfl ?_
      refine xald 32 ⟨u66, _, rfl⟩ rfl rfl ?_
      refine xild2 34 ⟨u66, _, rfl⟩ rfl rfl ?_
      refine xald 35 ⟨u66, _, rfl⟩ rfl rfl ?_
      refine xild 36 ⟨u66, _, rfl⟩ rfl rfl ?_
      refine xcallC 39 (o := 49) [.int _] [.int _, .ref 62] hH ⟨u66, _, rfl⟩ rfl rfl (by decide) rfl (by decide) rfl ⟨rfl, rfl, rfl, rfl⟩ rfl (k_ptQ hH ha n3 (fun z36 h36 => ⟨_, rfl, ?_⟩))
      rw [n5] at h36
      refine xild2 41 ⟨u66, _, rfl⟩ rfl rfl ?_
      refine xcst 42 (-1) ⟨u66, _, rfl⟩ rfl (by decide) (fun z41 h41 => ?_)
      refine xxor 43 ⟨u66, _, rfl⟩ rfl ?_
      refine xand 44 ⟨u66, _, rfl⟩ rfl ?_
      refine xcallC 47 (o := 62) [.int _, .int _] [] hH ⟨u66, _, rfl⟩ rfl rfl (by decide) rfl (by decide) rfl ⟨rfl, rfl, rfl, rfl⟩ rfl (k_exP hH hE (m := mN T ((qL T n).getD t 0)) (n := ndif (qU T n) (mN T ((qL T n).getD t 0))) (by rw [List.length_take]; omega) h26 (i_nd h36 h26 uU (by omega) h41) (fun hp44 hH44 F44 E44 J44 => ⟨_, rfl, ?_⟩))
      rw [← c1, ← c2, ← tk_succ (show t < (qG T n).length by show t < 4; omega), ← tk_succ (show t < (qC T n).length by show t < 4; omega)] at E44
      refine xinc 50 (1) ⟨u66, _, rfl⟩ rfl rfl rfl (by decide) (by omega) (by omega) (fun z47 h47 => ?_)
      refine xgoto ⟨u66, _, rfl⟩ ?_
      exact ih (t + 1) z47 _ hp44 (by omega) (by omega) hH44 (hF.trans (F44.mono (by simp))) E44 (J44.trans hJ)
theorem k_plQ {d q n V : Nat} {T : sT} {hp : amH} {R : xQ} {a : Int32} (hH : bHk 84 bTT hp) (hT : sOk V T) (hQ : qdN hp T 42875) (hL : lsN hp 3 T 225) (hq : q < nQ T) (hn : (fL (qdB T) 42875).getD q 0 = n) (ha : a.toInt = (q : Int))
    (hR : ∀ hp1, bHk 84 bTT hp1 → bFx [62, 63, 64] hp hp1 → exO hp1 (qG T n) (qC T n) → rJ hp1 62 1 = ((jL (qL T n) : Nat) : Int) → R (.inl none) hp1) : xK (d + 2) 66 [.ref 49, .ref 3, .int a, .ref 62] hp R := by
  obtain ⟨n1, n2, n3, n4, n5, n6, n7⟩ := qd_at hT hQ hq hn
  refine xin (M := am_m66) rfl rfl rfl ?_
  refine xald 1 ⟨u66, _, rfl⟩ rfl rfl ?_
  refine xald 2 ⟨u66, _, rfl⟩ rfl rfl ?_
  refine xild 3 ⟨u66, _, rfl⟩ rfl rfl ?_
  refine xcallC 6 (o := 49) [.int _] [.ref 62] hH ⟨u66, _, rfl⟩ rfl rfl (by decide) rfl (by decide) rfl ⟨rfl, rfl, rfl, rfl⟩ rfl (k_mkQ hH ha n3 (fun z3 h3 => ⟨_, rfl, ?_⟩))
  refine xcallC 9 (o := 62) [.long _] [] hH ⟨u66, _, rfl⟩ rfl rfl (by decide) rfl (by decide) rfl ⟨rfl, rfl, rfl, rfl⟩ rfl (k_exB hH (fun hp6 hH6 F6 E6 J6 => ⟨_, rfl, ?_⟩))
  refine xcst 10 (0) ⟨u66, _, rfl⟩ rfl (by decide) (fun z9 h9 => ?_)
  refine xist2 12 ⟨u66, _, rfl⟩ rfl rfl ?_
  refine xpad 1 ?_
  exact l66E hT (qdN_fr hQ (fun c k hc => F6 c k (by simp; omega))) (lsN_fr hL (bFx_n F6 (by simp)) (fun _ => bFx_n F6 (by simp)) (fun _ => bFx_n F6 (by simp))) hq hn ha (fun hp1 g1 g2 g3 g4 => hR hp1 g1 ((F6.mono (by simp)).trans g2) g3 g4) 4 0 _ _ hp6 (by omega) (by omega) hH6 bFx.refl E6 (by rw [J6, h3, n4])
/-- what a row of triples makes, one put behind the other -/
def cwM (V : Nat) (T : sT) (m : Nat) : Nat := cw V T (memN m 0).toNat (memN m 1).toNat (memN m 2).toNat
def cwL (V : Nat) (T : sT) : List Nat → Nat
  | [] => 0
  | m :: r => cwM V (uPut T m) m + cwL V (uPut T m) r
theorem cw_le {V : Nat} {T : sT} {x y z : Nat} : cw V T x y z ≤ V := by
  have := sm_le (f := fun a => iv (¬ T x a = -1 ∧ ¬ a = y ∧ ¬ a = z ∧ ¬ T y a = -1 ∧ T y a = T z (T x a).toNat)) (g := fun _ => 1) V (fun i _ => iv_le)
  rw [sm_const] at this
  unfold cw
  omega
theorem cwL_le {V : Nat} (hV : V ≤ 15) : ∀ (L : List Nat) (T : sT), cwL V T L ≤ 15 * L.length
  | [], _ => Nat.zero_le _
  | m :: r, T => by
    have i := cwL_le hV r (uPut T m)
    have j : cwM V (uPut T m) m ≤ V := cw_le
    show cwM V (uPut T m) m + cwL V (uPut T m) r ≤ 15 * (r.length + 1)
    omega
theorem cwM_3 {V x y z : Nat} {T : sT} (h1 : x < y) (h2 : y < z) (h3 : z < 15) : cwM V T (m3 x y z) = cw V T x y z := by
  obtain ⟨a, b, c⟩ := mem3 h1 h2 h3
  unfold cwM
  rw [a, b, c, Int.toNat_natCast, Int.toNat_natCast, Int.toNat_natCast]
theorem nQ_cwL {V : Nat} : ∀ {L : List Nat} {T : sT}, sOk V T → ptOk V T L → nQ (uPs T L) = nQ T + cwL V T L
  | [], T, _, _ => (Nat.add_zero (nQ T)).symm
  | m :: r, T, hT, h => by
    obtain ⟨⟨x, y, z, h1, h2, h3, e, f⟩, h4⟩ := id h
    have hV := hT.2.1
    have i := nQ_cwL (L := r) (sOk_uPut hT h.1) h4
    have j := nQ_put hT (x := x) (y := y) (z := z) (by omega) (by omega) h3 (by omega) (by omega) (by omega) f
    have k : uPut T m = sPut T x y z := by rw [e]; exact uPut_3 T (by omega) (by omega) (by omega) (by omega) (by omega) (by omega)
    have w : cwM V (uPut T m) m = cw V (sPut T x y z) x y z := by rw [k, e, cwM_3 h1 h2 (by omega)]
    show nQ (uPs (uPut T m) r) = nQ T + (cwM V (uPut T m) m + cwL V (uPut T m) r)
    rw [← k] at j w
    rw [i, w]
    omega
theorem u48 : bUp 0 am_m48.1 = true := by decide +kernel
theorem l48a {d o V : Nat} {T : sT} {G C : List Nat} {hp0 : amH} {R : xQ} (ho : bo o) (hE0 : exO hp0 G C)
    (hQ : ∀ hp1 w, bHk 84 bTT hp1 → bFx [o + 1, o + 3] hp0 hp1 → bdOk hp1 o V (uTs T G) → xV (d + 3) am_m48 35 [some (.ref 62), some (.ref o), some (.int w)] [] hp1 R) :
    ∀ (B A : List Nat) (wt : Int32) (hp : amH), G = A ++ B → wt.toInt = ((A.length : Nat) : Int) → tkOk (uTs T A) B → bHk 84 bTT hp → bFx [o + 1, o + 3] hp0 hp → bdOk hp o V (uTs T A) → xV (d + 3) am_m48 2 [some (.ref 62), some (.ref o), some (.int wt)] [] hp R := by
  have T62 := (show bTT 62 = some (2, 4, [.inl (2147483648, 2147483660), .inr (.inl 1), .inr (.inr [63]), .inr (.inr [64])]) from rfl)
  intro B
  induction B with
  | nil =>
    intro A wt hp hG hwt hk hH hF hB
    rw [List.append_nil] at hG
    subst hG
    have hE : exO hp G C := exO_fr hE0 (fun c k hc => hF c k (by rcases ho with rfl | rfl <;> simp <;> omega))
    have E1 := hE.1
    refine xild 3 ⟨u48, _, rfl⟩ rfl rfl ?_
    refine xald 4 ⟨u48, _, rfl⟩ rfl rfl ?_
    refine xgetC 7 hH ⟨u48, _, rfl⟩ rfl (by decide) (by decide) rfl rfl (by decide) (fun z4 h4 => ?_)
    refine xcmp_ge 10 ⟨u48, _, rfl⟩ rfl (fun c7 => ?_) (fun c7 => ?_)
    · exact hQ hp _ hH hF hB
    · omega
  | cons m r ih =>
    intro A wt hp hG hwt hk hH hF hB
    have hE : exO hp G C := exO_fr hE0 (fun c k hc => hF c k (by rcases ho with rfl | rfl <;> simp <;> omega))
    have E1 := hE.1
    have q1 := rb_c hH (c := 62) (by decide) T62 (f := 0) rfl (by decide)
    have hlen : G.length = A.length + (r.length + 1) := by rw [hG, List.length_append, List.length_cons]
    obtain ⟨⟨x, y, z, g1, g2, g3, g4⟩, hk2⟩ := hk
    have e3 := (hE.2.2 A.length (by omega)).1
    rw [hG, gt_app, g3] at e3
    have eT : uTake (uTs T A) m = sTake (uTs T A) x y z := by rw [g3]; exact uTake_3 _
    have eA : uTs T (A ++ [m]) = sTake (uTs T A) x y z := by rw [uTs_app]; exact eT
    rw [eT, ← eA] at hk2
    refine xild 3 ⟨u48, _, rfl⟩ rfl rfl ?_
    refine xald 4 ⟨u48, _, rfl⟩ rfl rfl ?_
    refine xgetC 7 hH ⟨u48, _, rfl⟩ rfl (by decide) (by decide) rfl rfl (by decide) (fun z4 h4 => ?_)
    refine xcmp_ge 10 ⟨u48, _, rfl⟩ rfl (fun c7 => ?_) (fun c7 => ?_)
    · omega
    · refine xild 11 ⟨u48, _, rfl⟩ rfl rfl ?_
      refine xald 12 ⟨u48, _, rfl⟩ rfl rfl ?_
      refine xgetD 15 (63) hH ⟨u48, _, rfl⟩ rfl (by decide) (by decide) rfl rfl (by decide) ?_
      refine xlen 16 hH ⟨u48, _, rfl⟩ rfl (by decide) rfl (by decide) (by decide) (fun z15 h15 => ?_)
      refine xcmp_ge 19 ⟨u48, _, rfl⟩ rfl (fun c16 => ?_) (fun c16 => ?_)
      · omega
      · refine xald 20 ⟨u48, _, rfl⟩ rfl rfl ?_
        refine xald 21 ⟨u48, _, rfl⟩ rfl rfl ?_
        refine xgetD 24 (63) hH ⟨u48, _, rfl⟩ rfl (by decide) (by decide) rfl rfl (by decide) ?_
        refine xild 25 ⟨u48, _, rfl⟩ rfl rfl ?_
        refine xiald 26 (wt).toInt.toNat hH ⟨u48, _, rfl⟩ rfl (by decide) rfl (by omega) (by omega) (fun z25 h25 => ?_)
        refine xcallC 29 (o := o) [.int _] [] hH ⟨u48, _, rfl⟩ rfl rfl (bo_lt ho) (bo_T ho) (by decide) rfl ⟨rfl, rfl, rfl, rfl⟩ rfl (k_bdropU ho hH hB (a := x) (b := y) (c := z) (by rw [h25, show wt.toInt.toNat = A.length by omega]; exact e3) g4 (fun hp26 hH26 F26 B26 => ⟨_, rfl, ?_⟩))
        rw [← eA] at B26
        refine xinc 32 (1) ⟨u48, _, rfl⟩ rfl rfl rfl (by decide) (by omega) (by omega) (fun z29 h29 => ?_)
        refine xgoto ⟨u48, _, rfl⟩ ?_
        exact ih (A ++ [m]) z29 hp26 (by rw [hG, List.append_assoc]; rfl) (by rw [List.length_append, List.length_singleton]; omega) hk2 hH26 (hF.trans F26) B26
theorem l48b {d o V : Nat} {T : sT} {G C : List Nat} {hp0 : amH} {R : xQ} {tot : Nat} (ho : bo o) (hE0 : exO hp0 G C) (htot : tot ≤ 180)
    (hR : ∀ (z : Int32) hp1, bHk 84 bTT hp1 → bFx [o + 1, o + 3] hp0 hp1 → bdOk hp1 o V (uPs T C) → z.toInt = (tot : Int) → R (.inl (some (.int z))) hp1) :
    ∀ (B A : List Nat) (w wt : Int32) (hp : amH), C = A ++ B → wt.toInt = ((A.length : Nat) : Int) → ptOk V (uPs T A) B → w.toInt + ((cwL V (uPs T A) B : Nat) : Int) = (tot : Int) → 0 ≤ w.toInt → bHk 84 bTT hp → bFx [o + 1, o + 3] hp0 hp → bdOk hp o V (uPs T A) → xV (d + 3) am_m48 39 [some (.ref 62), some (.ref o), some (.int w), some (.int wt)] [] hp R := by
  have T62 := (show bTT 62 = some (2, 4, [.inl (2147483648, 2147483660), .inr (.inl 1), .inr (.inr [63]), .inr (.inr [64])]) from rfl)
  intro B
  induction B with
  | nil =>
    intro A w wt hp hG hwt hk hw h0 hH hF hB
    rw [List.append_nil] at hG
    subst hG
    have hE : exO hp G C := exO_fr hE0 (fun c k hc => hF c k (by rcases ho with rfl | rfl <;> simp <;> omega))
    obtain ⟨E1, E2, -⟩ := hE
    have hw : w.toInt + ((0 : Nat) : Int) = (tot : Int) := hw
    refine xild 40 ⟨u48, _, rfl⟩ rfl rfl ?_
    refine xald 41 ⟨u48, _, rfl⟩ rfl rfl ?_
    refine xgetC 44 hH ⟨u48, _, rfl⟩ rfl (by decide) (by decide) rfl rfl (by decide) (fun z41 h41 => ?_)
    refine xcmp_ge 47 ⟨u48, _, rfl⟩ rfl (fun c44 => ?_) (fun c44 => ?_)
    · refine xild 86 ⟨u48, _, rfl⟩ rfl rfl ?_
      exact xret ⟨u48, _, rfl⟩ rfl (hR _ hp hH hF hB (by omega))
    · omega
  | cons m r ih =>
    intro A w wt hp hG hwt hk hw h0 hH hF hB
    have hE : exO hp G C := exO_fr hE0 (fun c k hc => hF c k (by rcases ho with rfl | rfl <;> simp <;> omega))
    obtain ⟨E1, E2, E3⟩ := hE
    have q1 := rb_c hH (c := 62) (by decide) T62 (f := 0) rfl (by decide)
    have hlen : C.length = A.length + (r.length + 1) := by rw [hG, List.length_append, List.length_cons]
    have hT := hB.2.1
    have hV := hT.2.1
    obtain ⟨⟨x, y, z, g1, g2, g3, g4, g5⟩, hk2⟩ := hk
    have e3 := (E3 A.length (by omega)).2
    rw [hG, gt_app, g4] at e3
    have eT : uPut (uPs T A) m = sPut (uPs T A) x y z := by rw [g4]; exact uPut_3 _ (by omega) (by omega) (by omega) (by omega) (by omega) (by omega)
    have eA : uPs T (A ++ [m]) = sPut (uPs T A) x y z := by rw [uPs_app]; exact eT
    have ec : cwL V (uPs T A) (m :: r) = cw V (sPut (uPs T A) x y z) x y z + cwL V (uPs T (A ++ [m])) r := by
      show cwM V (uPut (uPs T A) m) m + cwL V (uPut (uPs T A) m) r = _
      rw [eT, eA, g4, cwM_3 g1 g2 (by omega)]
    rw [ec] at hw
    rw [eT, ← eA] at hk2
    refine xild 40 ⟨u48, _, rfl⟩ rfl rfl ?_
    refine xald 41 ⟨u48, _, rfl⟩ rfl rfl ?_
    refine xgetC 44 hH ⟨u48, _, rfl⟩ rfl (by decide) (by decide) rfl rfl (by decide) (fun z41 h41 => ?_)
    refine xcmp_ge 47 ⟨u48, _, rfl⟩ rfl (fun c44 => ?_) (fun c44 => ?_)
    · omega
    · refine xild 48 ⟨u48, _, rfl⟩ rfl rfl ?_
      refine xald 49 ⟨u48, _, rfl⟩ rfl rfl ?_
      refine xgetD 52 (64) hH ⟨u48, _, rfl⟩ rfl (by decide) (by decide) rfl rfl (by decide) ?_
      refine xlen 53 hH ⟨u48, _, rfl⟩ rfl (by decide) rfl (by decide) (by decide) (fun z52 h52 => ?_)
      refine xcmp_ge 56 ⟨u48, _, rfl⟩ rfl (fun c53 => ?_) (fun c53 => ?_)
      · omega
      · refine xald 57 ⟨u48, _, rfl⟩ rfl rfl ?_
        refine xald 58 ⟨u48, _, rfl⟩ rfl rfl ?_
        refine xgetD 61 (64) hH ⟨u48, _, rfl⟩ rfl (by decide) (by decide) rfl rfl (by decide) ?_
        refine xild 62 ⟨u48, _, rfl⟩ rfl rfl ?_
        refine xiald 63 (wt).toInt.toNat hH ⟨u48, _, rfl⟩ rfl (by decide) rfl (by omega) (by omega) (fun z62 h62 => ?_)
        refine xcallC 66 (o := o) [.int _] [] hH ⟨u48, _, rfl⟩ rfl rfl (bo_lt ho) (bo_T ho) (by decide) rfl ⟨rfl, rfl, rfl, rfl⟩ rfl (k_bputU ho hH hB (a := x) (b := y) (c := z) (by rw [h62, show wt.toInt.toNat = A.length by omega]; exact e3) (by omega) (by omega) (by omega) (by omega) (by omega) (by omega) g5 (fun hp63 hH63 F63 B63 => ⟨_, rfl, ?_⟩))
        have e64 : rN hp63 64 A.length = rN hp 64 A.length := bFx_n F63 (by rcases ho with rfl | rfl <;> simp)
        refine xild 67 ⟨u48, _, rfl⟩ rfl rfl ?_
        refine xald 68 ⟨u48, _, rfl⟩ rfl rfl ?_
        refine xald 69 ⟨u48, _, rfl⟩ rfl rfl ?_
        refine xgetD 72 (64) hH63 ⟨u48, _, rfl⟩ rfl (by decide) (by decide) rfl rfl (by decide) ?_
        refine xild 73 ⟨u48, _, rfl⟩ rfl rfl ?_
        refine xiald 74 (wt).toInt.toNat hH63 ⟨u48, _, rfl⟩ rfl (by decide) rfl (by omega) (by omega) (fun z73 h73 => ?_)
        refine xcallS 77 [.ref (o), .int _] [.int _] hH63 ⟨u48, _, rfl⟩ rfl rfl rfl rfl (Bool.or_true _) (k_cnt ho hH63 B63 (x := x) (y := y) (z := z) (by rw [h73, show wt.toInt.toNat = A.length by omega, e64]; exact e3) g1 g2 g3 (fun z74 h74 => ⟨_, rfl, ?_⟩))
        refine xadd 78 _ ⟨u48, _, rfl⟩ rfl rfl (by omega) (by omega) (fun z77 h77 => ?_)
        refine xist 79 ⟨u48, _, rfl⟩ rfl rfl ?_
        refine xinc 82 (1) ⟨u48, _, rfl⟩ rfl rfl rfl (by decide) (by omega) (by omega) (fun z79 h79 => ?_)
        refine xgoto ⟨u48, _, rfl⟩ ?_
        exact ih (A ++ [m]) z77 z79 hp63 (by rw [hG, List.append_assoc]; rfl) (by rw [List.length_append, List.length_singleton]; omega) hk2 (by omega) (by omega) hH63 (hF.trans F63) (by rw [eA]; exact B63)
theorem k_exA {d o V : Nat} {T : sT} {G C : List Nat} {hp : amH} {R : xQ} (ho : bo o) (hH : bHk 84 bTT hp) (hE : exO hp G C) (hB : bdOk hp o V T) (hG : tkOk T G) (hC : ptOk V (uTs T G) C)
    (hR : ∀ (z : Int32) hp1, bHk 84 bTT hp1 → bFx [o + 1, o + 3] hp hp1 → bdOk hp1 o V (uPs (uTs T G) C) → z.toInt = ((cwL V (uTs T G) C : Nat) : Int) → R (.inl (some (.int z))) hp1) : xK (d + 3) 48 [.ref 62, .ref o] hp R := by
  have q1 := rb_c hH (c := 62) (by decide) (show bTT 62 = some (2, 4, [.inl (2147483648, 2147483660), .inr (.inl 1), .inr (.inr [63]), .inr (.inr [64])]) from rfl) (f := 0) rfl (by decide)
  have bc := cwL_le hB.2.1.2.1 C (uTs T G)
  obtain ⟨E1, E2, -⟩ := id hE
  refine xin (M := am_m48) rfl rfl (by unfold xAv; simp [amOk, bo_lt ho, Value.category]) ?_
  refine xcst 1 (0) ⟨u48, _, rfl⟩ rfl (by decide) (fun z0 h0 => ?_)
  refine xist 2 ⟨u48, _, rfl⟩ rfl rfl ?_
  refine l48a ho hE (fun hp1 w1 g1 g2 g3 => ?_) G [] _ hp rfl (by show z0.toInt = ((0 : Nat) : Int); omega) hG hH bFx.refl hB
  have hE1 : exO hp1 G C := exO_fr hE (fun c k hc => g2 c k (by rcases ho with rfl | rfl <;> simp <;> omega))
  refine xcst 36 (0) ⟨u48, _, rfl⟩ rfl (by decide) (fun z35 h35 => ?_)
  refine xist 37 ⟨u48, _, rfl⟩ rfl rfl ?_
  refine xcst 38 (0) ⟨u48, _, rfl⟩ rfl (by decide) (fun z37 h37 => ?_)
  refine xist 39 ⟨u48, _, rfl⟩ rfl rfl ?_
  exact l48b ho hE1 (by omega) (fun z hp2 k1 k2 k3 k4 => hR z hp2 k1 (g2.trans k2) k3 k4) C [] _ _ hp1 rfl (by show z37.toInt = ((0 : Nat) : Int); omega) hC (by show z35.toInt + ((cwL V (uTs T G) C : Nat) : Int) = _; omega) (by omega) g1 bFx.refl g3
