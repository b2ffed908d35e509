/-! ===== quadrilaterals in their order (pure); the class gathers them ===== -/
/-- the numbers below n that B says -/
def fL (B : Nat → Bool) : Nat → List Nat
  | 0 => []
  | n + 1 => if B n = true then fL B n ++ [n] else fL B n
theorem fL_add {B : Nat → Bool} {n : Nat} (h : B n = true) : fL B (n + 1) = fL B n ++ [n] := by
  show (if B n = true then _ else _) = _
  rw [if_pos h]
theorem fL_skip {B : Nat → Bool} {n : Nat} (h : ¬ B n = true) : fL B (n + 1) = fL B n := by
  show (if B n = true then _ else _) = _
  rw [if_neg h]
theorem fL_no {B : Nat → Bool} {n n1 : Nat} (h : n ≤ n1) (hn : ∀ k, n ≤ k → k < n1 → ¬ B k = true) : fL B n1 = fL B n := by
  induction n1 with
  | zero => rw [show n = 0 by omega]
  | succ m ih =>
    by_cases e : n = m + 1
    · rw [e]
    · rw [fL_skip (hn m (by omega) (by omega))]
      exact ih (by omega) (fun k k1 k2 => hn k k1 (by omega))
theorem fL_mono {B : Nat → Bool} (n : Nat) : ∀ k, (fL B n).length ≤ (fL B (n + k)).length
  | 0 => Nat.le_refl _
  | k + 1 => by
    have := fL_mono (B := B) n k
    have e : fL B (n + (k + 1)) = (if B (n + k) = true then fL B (n + k) ++ [n + k] else fL B (n + k)) := rfl
    rw [e]
    split
    · rw [List.length_append]; omega
    · exact this
theorem fL_le {B : Nat → Bool} {n m : Nat} (h : n ≤ m) : (fL B n).length ≤ (fL B m).length := by
  obtain ⟨k, rfl⟩ := Nat.exists_eq_add_of_le h
  exact fL_mono n k
theorem fL_get {B : Nat → Bool} : ∀ n t, t < (fL B n).length → B ((fL B n).getD t 0) = true ∧ (fL B n).getD t 0 < n ∧ (fL B ((fL B n).getD t 0)).length = t
  | 0, t, h => absurd h (Nat.not_lt_zero t)
  | n + 1, t, h => by
    by_cases hb : B n = true
    · have e : fL B (n + 1) = fL B n ++ [n] := fL_add hb
      rw [e] at h ⊢
      rw [List.length_append, List.length_singleton] at h
      by_cases g : t = (fL B n).length
      · subst g
        rw [gd_end]
        exact ⟨hb, Nat.lt_succ_self n, rfl⟩
      · rw [gd_app (by omega)]
        obtain ⟨g1, g2, g3⟩ := fL_get (B := B) n t (by omega)
        exact ⟨g1, by omega, g3⟩
    · rw [fL_skip hb] at h ⊢
      obtain ⟨g1, g2, g3⟩ := fL_get n t h
      exact ⟨g1, by omega, g3⟩
/-- the set of the triple numbered t -/
def mN (T : sT) (t : Nat) : Nat := mk3 T ((trL T 225).getD t 0)
/-- what three triples leave -/
def qR (T : sT) (n : Nat) : Nat := mN T (n / 1225) ^^^ mN T (n / 35 % 35) ^^^ mN T (n % 35)
/-- three triples, rising, begin a quadrilateral -/
def qdB (T : sT) (n : Nat) : Bool := decide (n / 1225 < n / 35 % 35 ∧ n / 35 % 35 < n % 35 ∧ n % 35 < (trL T 225).length ∧ ¬ mN T (n / 1225) &&& mN T (n / 35 % 35) = 0 ∧ ((n % 35 : Nat) : Int) < nmT T (qR T n))
theorem mN_lt {V : Nat} {T : sT} (hT : sOk V T) {t : Nat} (ht : t < (trL T 225).length) : mN T t < 32768 ∧ ∀ p, (mN T t).testBit p = true → p < V := by
  obtain ⟨g1, g2, g3⟩ := trL_get 225 t ht
  obtain ⟨z, ez, h1, h2, h3⟩ := tr_pts hT g1
  have hV := hT.2.1
  unfold mN mk3
  rw [ez, Int.toNat_natCast]
  refine ⟨(m3_lt (by omega) (by omega) (by omega)), fun p hp => ?_⟩
  rw [m3_test] at hp
  have := of_decide_eq_true hp
  omega
/-- the class's quadrilaterals up to n: how many, their triples, their points -/
def qdN (hp : amH) (T : sT) (n : Nat) : Prop := rN hp 49 0 = (((fL (qdB T) n).length : Nat) : Int) ∧ ∀ q, q < (fL (qdB T) n).length → rJ hp 50 q = ((2 ^ ((fL (qdB T) n).getD q 0 / 1225) ||| 2 ^ ((fL (qdB T) n).getD q 0 / 35 % 35) ||| 2 ^ ((fL (qdB T) n).getD q 0 % 35) ||| 2 ^ (nmT T (qR T ((fL (qdB T) n).getD q 0))).toNat : Nat) : Int) ∧ rN hp 51 q = ((mN T ((fL (qdB T) n).getD q 0 / 1225) ||| mN T ((fL (qdB T) n).getD q 0 / 35 % 35) ||| qR T ((fL (qdB T) n).getD q 0) : Nat) : Int)
theorem qdN_fr {hp hp1 : amH} {T : sT} {n : Nat} (h : qdN hp T n) (F : ∀ c k, c = 49 ∨ c = 50 ∨ c = 51 → bFld hp1 c k = bFld hp c k) : qdN hp1 T n :=
  ⟨(rN_eq (F 49 0 (Or.inl rfl))).trans h.1, fun q hq => ⟨(rJ_eq (F 50 q (Or.inr (Or.inl rfl)))).trans (h.2 q hq).1, (rN_eq (F 51 q (Or.inr (Or.inr rfl)))).trans (h.2 q hq).2⟩⟩
theorem u57 : bUp 0 am_m57.1 = true := by decide +kernel
theorem u58 : bUp 0 am_m58.1 = true := by decide +kernel
theorem k_setL {d t : Nat} {T : sT} {hp : amH} {R : xQ} {a : Int32} (hH : bHk 84 bTT hp) (hL : lsN hp 3 T 225) (ha : a.toInt = (t : Int)) (ht : t < (trL T 225).length) (hR : ∀ z : Int32, z.toInt = ((mN T t : Nat) : Int) → R (.inl (some (.int z))) hp) : xK d 9 [.ref 3, .int a] hp R :=
  k_set (o := 3) (Or.inl rfl) hH (fun z h => hR z (by
    have L1 := hL.1
    rw [h, if_pos (by omega), show a.toInt.toNat = t by omega]
    exact hL.2.1 t ht))
theorem k_kpq {d n i j k l u : Nat} {T : sT} {hp : amH} {R : xQ} {a b c e f : Int32} (hH : bHk 84 bTT hp) (hQ : qdN hp T n) (hb : qdB T n = true) (h105 : (fL (qdB T) (n + 1)).length ≤ 105) (ha : a.toInt = (i : Int)) (hb2 : b.toInt = (j : Int)) (hc : c.toInt = (k : Int)) (he : e.toInt = (l : Int)) (hf : f.toInt = (u : Int)) (hi : n / 1225 = i) (hj : n / 35 % 35 = j) (hk : n % 35 = k) (hl : nmT T (qR T n) = (l : Int)) (hu : u = mN T i ||| mN T j ||| qR T n) (hi2 : i < 35) (hl2 : l < 35)
    (hR : ∀ hp1, bHk 84 bTT hp1 → bFx [49, 50, 51] hp hp1 → qdN hp1 T (n + 1) → R (.inl none) hp1) : xK d 58 [.ref 49, .int a, .int b, .int c, .int e, .int f] hp R := by
  have q1 := rb_c hH (c := 49) (by decide) (show bTT 49 = some (4, 3, [.inl (2147483648, 2147483753), .inr (.inr [50]), .inr (.inr [51])]) from rfl) (f := 0) rfl (by decide)
  have em := aMin f
  have ex := aMax f
  rw [fL_add hb, List.length_append, List.length_singleton] at h105
  obtain ⟨Q1, Q2⟩ := id hQ
  refine xin (M := am_m58) rfl rfl rfl ?_
  refine xald 1 ⟨u58, _, rfl⟩ rfl rfl ?_
  refine xgetC 4 hH ⟨u58, _, rfl⟩ rfl (by decide) (by decide) rfl rfl (by decide) (fun z1 h1 => ?_)
  refine xbip 6 (105) ⟨u58, _, rfl⟩ rfl (by decide) (fun z4 h4 => ?_)
  refine xcmp_ge 9 ⟨u58, _, rfl⟩ rfl (fun c6 => ?_) (fun c6 => ?_)
  · omega
  · refine xald 10 ⟨u58, _, rfl⟩ rfl rfl ?_
    refine xgetD 13 (50) hH ⟨u58, _, rfl⟩ rfl (by decide) (by decide) rfl rfl (by decide) ?_
    refine xald 14 ⟨u58, _, rfl⟩ rfl rfl ?_
    refine xgetC 17 hH ⟨u58, _, rfl⟩ rfl (by decide) (by decide) rfl rfl (by decide) (fun z14 h14 => ?_)
    refine xlcst 18 (1) ⟨u58, _, rfl⟩ rfl (by decide) (fun z17 h17 => ?_)
    refine xild 19 ⟨u58, _, rfl⟩ rfl rfl ?_
    refine xlshl 20 ⟨u58, _, rfl⟩ rfl ?_
    refine xlcst 21 (1) ⟨u58, _, rfl⟩ rfl (by decide) (fun z20 h20 => ?_)
    refine xild 22 ⟨u58, _, rfl⟩ rfl rfl ?_
    refine xlshl 23 ⟨u58, _, rfl⟩ rfl ?_
    refine xlor 24 ⟨u58, _, rfl⟩ rfl ?_
    refine xlcst 25 (1) ⟨u58, _, rfl⟩ rfl (by decide) (fun z24 h24 => ?_)
    refine xild 26 ⟨u58, _, rfl⟩ rfl rfl ?_
    refine xlshl 27 ⟨u58, _, rfl⟩ rfl ?_
    refine xlor 28 ⟨u58, _, rfl⟩ rfl ?_
    refine xlcst 29 (1) ⟨u58, _, rfl⟩ rfl (by decide) (fun z28 h28 => ?_)
    refine xild2 31 ⟨u58, _, rfl⟩ rfl rfl ?_
    refine xlshl 32 ⟨u58, _, rfl⟩ rfl ?_
    refine xlor 33 ⟨u58, _, rfl⟩ rfl ?_
    have w1 := j_shl h17 ha (by omega)
    have w2 := j_shl h20 hb2 (by omega)
    have w3 := j_or w1 w2
    have w4 := j_shl h24 hc (by omega)
    have w5 := j_or w3 w4
    have w6 := j_shl h28 he (by omega)
    have w7 := j_or w5 w6
    refine xlast 34 (z14).toInt.toNat hH ⟨u58, _, rfl⟩ rfl (by decide) rfl (by omega) (by omega) (fun hp33 hH33 U33 => ?_)
    have e33 : rN hp33 49 0 = rN hp 49 0 := rV_ne U33 (by omega)
    refine xald 35 ⟨u58, _, rfl⟩ rfl rfl ?_
    refine xgetD 38 (51) hH33 ⟨u58, _, rfl⟩ rfl (by decide) (by decide) rfl rfl (by decide) ?_
    refine xald 39 ⟨u58, _, rfl⟩ rfl rfl ?_
    refine xgetC 42 hH33 ⟨u58, _, rfl⟩ rfl (by decide) (by decide) rfl rfl (by decide) (fun z39 h39 => ?_)
    refine xild2 44 ⟨u58, _, rfl⟩ rfl rfl ?_
    refine xiast 45 (z39).toInt.toNat hH33 ⟨u58, _, rfl⟩ rfl (by decide) rfl (by omega) (by omega) (by omega) (by omega) (fun hp44 hH44 U44 => ?_)
    have s44 := U44.1
    have e44 : rN hp44 49 0 = rN hp 49 0 := (rU_ne U44 (by omega)).trans e33
    refine xald 46 ⟨u58, _, rfl⟩ rfl rfl ?_
    refine xdup 47 ⟨u58, _, rfl⟩ rfl rfl ?_
    refine xgetC 50 hH44 ⟨u58, _, rfl⟩ rfl (by decide) (by decide) rfl rfl (by decide) (fun z47 h47 => ?_)
    refine xcst 51 (1) ⟨u58, _, rfl⟩ rfl (by decide) (fun z50 h50 => ?_)
    refine xadd 52 _ ⟨u58, _, rfl⟩ rfl rfl (by omega) (by omega) (fun z51 h51 => ?_)
    refine xputC 55 hH44 ⟨u58, _, rfl⟩ rfl (by decide) (by decide) rfl rfl (by decide) ⟨rfl, rfl⟩ (by omega) (by omega) (fun hp52 hH52 U52 => ?_)
    have s52 := U52.1
    have s33 := rV_J U33
    refine xretV ⟨u58, _, rfl⟩ rfl (hR hp52 hH52 (((bY_bx U33 (by simp)).trans (bFx_U U44 (by simp))).trans (bFx_U U52 (by simp))) ⟨by rw [fL_add hb, List.length_append, List.length_singleton]; omega, fun q hq => ?_⟩)
    rw [fL_add hb, List.length_append, List.length_singleton] at hq
    rw [fL_add hb]
    by_cases g : q = (fL (qdB T) n).length
    · subst g
      rw [gd_end, hi, hj, hk, hl, Int.toNat_natCast]
      refine ⟨?_, ?_⟩
      · rw [rJ_ne U52 (by omega), rJ_ne U44 (by omega), show (fL (qdB T) n).length = z14.toInt.toNat by omega, s33]
        exact w7
      · rw [rU_ne U52 (by omega), show (fL (qdB T) n).length = z39.toInt.toNat by omega, U44.1, hf, hu]
    · rw [gd_app (by omega)]
      obtain ⟨k1, k2⟩ := Q2 q (by omega)
      refine ⟨?_, ?_⟩
      · rw [rJ_ne U52 (by omega), rJ_ne U44 (by omega), rJ_eq (U33.2 50 q (by omega))]
        exact k1
      · rw [rU_ne U52 (by omega), rU_ne U44 (by omega), rV_ne U33 (by omega)]
        exact k2
