/-! ##### 19.m.034.31a ##### -/
section
/-! ===== systems with their tallies, what was; snapshots ===== -/
/-- a system: how many points, the third points, the tally -/
abbrev sR : Type := Nat × sT × (Nat → Int)
def rowOk (r : Nat → Int) (q : sR) : Prop := r 0 = (q.1 : Int) ∧ sOk q.1 q.2.1 ∧ (∀ u v, u < 15 → v < 15 → r (4 + 15 * u + v) = q.2.1 u v) ∧ (∀ u v, ¬ (u < 15 ∧ v < 15) → q.2.1 u v = -1) ∧ ∀ i, i < 3 → r (i + 1) = q.2.2 i
theorem bY_bx {W : List Nat} {hp hp1 : amH} {c i : Nat} {v : Value} (U : rV hp hp1 c i v) (h : c ∈ W) : bFx W hp hp1 := fun c1 k e => U.2 c1 k (fun z => e (by rw [z.1]; exact h))
/-- a snapshot's cell -/
def sn (s : Nat) : Prop := s ∈ [16, 19, 22, 25, 28, 31, 34, 37, 40, 43, 46]
theorem sn_c {s : Nat} (h : sn s) : s = 16 ∨ s = 19 ∨ s = 22 ∨ s = 25 ∨ s = 28 ∨ s = 31 ∨ s = 34 ∨ s = 37 ∨ s = 40 ∨ s = 43 ∨ s = 46 := by
  unfold sn at h
  simpa using h
theorem sn_T {s : Nat} (h : sn s) : bTT s = some (6, 4, [.inl (2147483648, 2147483663), .inl (2147483648, 2147483683), .inr (.inr [17, 20, 23, 26, 29, 32, 35, 38, 41, 44, 47]), .inr (.inr [18, 21, 24, 27, 30, 33, 36, 39, 42, 45, 48])]) := by rcases sn_c h with rfl | rfl | rfl | rfl | rfl | rfl | rfl | rfl | rfl | rfl | rfl <;> rfl
theorem sn_T1 {s : Nat} (h : sn s) : bTT (s + 1) = some (32, 35, [.inl (0, 4294967295)]) := by rcases sn_c h with rfl | rfl | rfl | rfl | rfl | rfl | rfl | rfl | rfl | rfl | rfl <;> rfl
theorem sn_T2 {s : Nat} (h : sn s) : bTT (s + 2) = some (7, 3, [.inl (0, 4294967295), .inl (0, 4294967295), .inl (0, 4294967295)]) := by rcases sn_c h with rfl | rfl | rfl | rfl | rfl | rfl | rfl | rfl | rfl | rfl | rfl <;> rfl
theorem sn_lt {s : Nat} (h : sn s) : s < 84 := by have := sn_c h; omega
theorem sn_lt1 {s : Nat} (h : sn s) : s + 1 < 84 := by have := sn_c h; omega
theorem sn_lt2 {s : Nat} (h : sn s) : s + 2 < 84 := by have := sn_c h; omega
/-- a tally's cell -/
def ta (a : Nat) : Prop := a = 13 ∨ ∃ s, sn s ∧ a = s + 2
theorem ta_T {a : Nat} (h : ta a) : bTT a = some (7, 3, [.inl (0, 4294967295), .inl (0, 4294967295), .inl (0, 4294967295)]) := by
  rcases h with rfl | ⟨s, h, rfl⟩
  · rfl
  · exact sn_T2 h
theorem ta_lt {a : Nat} (h : ta a) : a < 84 := by
  rcases h with rfl | ⟨s, h, rfl⟩
  · decide
  · exact sn_lt2 h
/-- a snapshot holds its row and its tally -/
def snF (hp : amH) (s : Nat) : Prop := bFld hp s 2 = some (.ref (s + 1)) ∧ bFld hp s 3 = some (.ref (s + 2))
/-- a snapshot of a system -/
def snOk (hp : amH) (s : Nat) (q : sR) : Prop := rN hp s 0 = (q.1 : Int) ∧ sOk q.1 q.2.1 ∧ (∀ u v, ¬ (u < 15 ∧ v < 15) → q.2.1 u v = -1) ∧ rN hp s 1 = (((trL q.2.1 225).length : Nat) : Int) ∧ (∀ t, t < (trL q.2.1 225).length → rN hp (s + 1) t = ((mk3 q.2.1 ((trL q.2.1 225).getD t 0) : Nat) : Int)) ∧ ∀ i, i < 3 → rN hp (s + 2) i = q.2.2 i
theorem snOk_fr {hp hp1 : amH} {s : Nat} {q : sR} (h : snOk hp s q) (F : ∀ c, s ≤ c → c ≤ s + 2 → ∀ k, bFld hp1 c k = bFld hp c k) : snOk hp1 s q := by
  obtain ⟨h1, h2, h3, h4, h5, h6⟩ := h
  have e : ∀ c, s ≤ c → c ≤ s + 2 → ∀ k, rN hp1 c k = rN hp c k := fun c c1 c2 k => rN_eq (F c c1 c2 k)
  exact ⟨by rw [e s (by omega) (by omega)]; exact h1, h2, h3, by rw [e s (by omega) (by omega)]; exact h4, fun t ht => by rw [e _ (by omega) (by omega)]; exact h5 t ht, fun i hi => by rw [e _ (by omega) (by omega)]; exact h6 i hi⟩
theorem u9 : bUp 0 am_m9.1 = true := by decide +kernel
theorem u50 : bUp 0 am_m50.1 = true := by decide +kernel
theorem u51 : bUp 0 am_m51.1 = true := by decide +kernel
theorem u52 : bUp 0 am_m52.1 = true := by decide +kernel
theorem u53 : bUp 0 am_m53.1 = true := by decide +kernel
theorem u54 : bUp 0 am_m54.1 = true := by decide +kernel
theorem u89 : bUp 0 am_m89.1 = true := by decide +kernel
theorem u90 : bUp 0 am_m90.1 = true := by decide +kernel
theorem u93 : bUp 0 am_m93.1 = true := by decide +kernel
theorem u184 : bUp 0 am_m184.1 = true := by decide +kernel
theorem k_tyc {d : Nat} {hp : amH} {R : xQ} {a b : Nat} (ha : ta a) (hb : ta b) (hne : ¬ a = b) (hH : bHk 84 bTT hp) (hR : ∀ hp1, bHk 84 bTT hp1 → bFx [a] hp hp1 → (∀ i, i < 3 → rN hp1 a i = rN hp b i) → R (.inl none) hp1) : xK d 93 [.ref a, .ref b] hp R := by
  refine xin (M := am_m93) rfl rfl (by unfold xAv; simp [amOk, ta_lt ha, ta_lt hb, Value.category]) ?_
  refine xald 1 ⟨u93, _, rfl⟩ rfl rfl ?_
  refine xald 2 ⟨u93, _, rfl⟩ rfl rfl ?_
  refine xgetC 5 hH ⟨u93, _, rfl⟩ rfl (ta_lt hb) (by decide) (ta_T hb) rfl (by decide) (fun z2 h2 => ?_)
  have bm2 := aMin z2
  have bx2 := aMax z2
  refine xputC 8 hH ⟨u93, _, rfl⟩ rfl (ta_lt ha) (by decide) (ta_T ha) rfl (by decide) ⟨rfl, rfl⟩ (by omega) (by omega) (fun hp5 hH5 U5 => ?_)
  have s5 := U5.1
  have n5_a_1 : rN hp5 (a) 1 = rN hp (a) 1 := rU_ne U5 (by omega)
  have n5_a_2 : rN hp5 (a) 2 = rN hp (a) 2 := rU_ne U5 (by omega)
  have n5_b_0 : rN hp5 (b) 0 = rN hp (b) 0 := rU_ne U5 (by omega)
  have n5_b_1 : rN hp5 (b) 1 = rN hp (b) 1 := rU_ne U5 (by omega)
  have n5_b_2 : rN hp5 (b) 2 = rN hp (b) 2 := rU_ne U5 (by omega)
  refine xald 9 ⟨u93, _, rfl⟩ rfl rfl ?_
  refine xald 10 ⟨u93, _, rfl⟩ rfl rfl ?_
  refine xgetC 13 hH5 ⟨u93, _, rfl⟩ rfl (ta_lt hb) (by decide) (ta_T hb) rfl (by decide) (fun z10 h10 => ?_)
  have bm10 := aMin z10
  have bx10 := aMax z10
  refine xputC 16 hH5 ⟨u93, _, rfl⟩ rfl (ta_lt ha) (by decide) (ta_T ha) rfl (by decide) ⟨rfl, rfl⟩ (by omega) (by omega) (fun hp13 hH13 U13 => ?_)
  have s13 := U13.1
  have n13_a_0 : rN hp13 (a) 0 = rN hp5 (a) 0 := rU_ne U13 (by omega)
  have n13_a_2 : rN hp13 (a) 2 = rN hp5 (a) 2 := rU_ne U13 (by omega)
  have n13_b_0 : rN hp13 (b) 0 = rN hp5 (b) 0 := rU_ne U13 (by omega)
  have n13_b_1 : rN hp13 (b) 1 = rN hp5 (b) 1 := rU_ne U13 (by omega)
  have n13_b_2 : rN hp13 (b) 2 = rN hp5 (b) 2 := rU_ne U13 (by omega)
  refine xald 17 ⟨u93, _, rfl⟩ rfl rfl ?_
  refine xald 18 ⟨u93, _, rfl⟩ rfl rfl ?_
  refine xgetC 21 hH13 ⟨u93, _, rfl⟩ rfl (ta_lt hb) (by decide) (ta_T hb) rfl (by decide) (fun z18 h18 => ?_)
  have bm18 := aMin z18
  have bx18 := aMax z18
  refine xputC 24 hH13 ⟨u93, _, rfl⟩ rfl (ta_lt ha) (by decide) (ta_T ha) rfl (by decide) ⟨rfl, rfl⟩ (by omega) (by omega) (fun hp21 hH21 U21 => ?_)
  have s21 := U21.1
  have n21_a_0 : rN hp21 (a) 0 = rN hp13 (a) 0 := rU_ne U21 (by omega)
  have n21_a_1 : rN hp21 (a) 1 = rN hp13 (a) 1 := rU_ne U21 (by omega)
  have n21_b_0 : rN hp21 (b) 0 = rN hp13 (b) 0 := rU_ne U21 (by omega)
  have n21_b_1 : rN hp21 (b) 1 = rN hp13 (b) 1 := rU_ne U21 (by omega)
  have n21_b_2 : rN hp21 (b) 2 = rN hp13 (b) 2 := rU_ne U21 (by omega)
  exact xretV ⟨u93, _, rfl⟩ rfl (hR _ hH21 (((bFx_U U5 (by simp)).trans (bFx_U U13 (by simp))).trans (bFx_U U21 (by simp))) (fun i hi => by rcases (by omega : i = 0 ∨ i = 1 ∨ i = 2) with rfl | rfl | rfl <;> omega))
/-- the set of a triple of the board -/
theorem k_set {d : Nat} {hp : amH} {R : xQ} {o : Nat} {a : Int32} (ho : bo o) (hH : bHk 84 bTT hp) (hR : ∀ z : Int32, z.toInt = (if 0 ≤ a.toInt ∧ a.toInt < rN hp o 1 then rN hp (o + 4) a.toInt.toNat else 0) → R (.inl (some (.int z))) hp) : xK d 9 [.ref o, .int a] hp R := by
  have q1 := rb_c hH (bo_lt ho) (bo_T ho) (f := 1) rfl (by decide)
  refine xin (M := am_m9) rfl rfl (by unfold xAv; simp [amOk, bo_lt ho, Value.category]) ?_
  refine xild 1 ⟨u9, _, rfl⟩ rfl rfl ?_
  refine xif_lt 4 ⟨u9, _, rfl⟩ rfl (fun c1 => ?_) (fun c1 => ?_)
  · refine xcst 22 (0) ⟨u9, _, rfl⟩ rfl (by decide) (fun z21 h21 => ?_)
    exact xret ⟨u9, _, rfl⟩ rfl (hR _ (by rw [if_neg (by omega)]; exact h21))
  · refine xild 5 ⟨u9, _, rfl⟩ rfl rfl ?_
    refine xald 6 ⟨u9, _, rfl⟩ rfl rfl ?_
    refine xgetC 9 hH ⟨u9, _, rfl⟩ rfl (bo_lt ho) (by decide) (bo_T ho) rfl (by decide) (fun z6 h6 => ?_)
    refine xcmp_ge 12 ⟨u9, _, rfl⟩ rfl (fun c9 => ?_) (fun c9 => ?_)
    · refine xcst 22 (0) ⟨u9, _, rfl⟩ rfl (by decide) (fun z21 h21 => ?_)
      exact xret ⟨u9, _, rfl⟩ rfl (hR _ (by rw [if_neg (by omega)]; exact h21))
    · refine xald 13 ⟨u9, _, rfl⟩ rfl rfl ?_
      refine xgetD 16 (o + 4) hH ⟨u9, _, rfl⟩ rfl (bo_lt ho) (by decide) (bo_T ho) rfl (by decide) ?_
      refine xild 17 ⟨u9, _, rfl⟩ rfl rfl ?_
      refine xiald 18 (a).toInt.toNat hH ⟨u9, _, rfl⟩ rfl (bo_lt4 ho) (bo_T4 ho) (by omega) (by omega) (fun z17 h17 => ?_)
      refine xgoto ⟨u9, _, rfl⟩ ?_
      exact xret ⟨u9, _, rfl⟩ rfl (hR _ (by rw [if_pos (by omega)]; exact h17))
theorem bTT3 : bTT 3 = some (0, 6, [.inl (2147483648, 2147483663), .inl (2147483648, 2147483683), .inr (.inr [4]), .inr (.inr [5]), .inr (.inr [6]), .inr (.inr [7])]) := rfl
theorem l89 {d : Nat} {hp0 : amH} {R : xQ} {s b : Nat} (hs : sn s) (hb : ta b) (hne : ¬ s + 2 = b) (hne1 : ¬ b = s + 1) (F2 : snF hp0 s)
    (hR : ∀ hp1, bHk 84 bTT hp1 → bFx [s + 1, s + 2] hp0 hp1 → (∀ t : Nat, (t : Int) < rN hp0 3 1 → rN hp1 (s + 1) t = rN hp0 7 t) → (∀ i, i < 3 → rN hp1 (s + 2) i = rN hp0 b i) → R (.inl none) hp1) :
    ∀ (jj t : Nat) (w : Int32) (hp : amH), w.toInt = (t : Int) → t + jj = 35 → bHk 84 bTT hp → bFx [s + 1] hp0 hp → (∀ j, j < t → (j : Int) < rN hp0 3 1 → rN hp (s + 1) j = rN hp0 7 j) → xV (d + 1) am_m89 18 [some (.ref s), some (.ref 3), some (.ref b), some (.int w)] [] hp R := by
  have c := sn_c hs
  intro jj
  induction jj with
  | zero =>
    intro t w hp hw hj hH hF hA
    have q1 := rb_c hH (c := 3) (by decide) (bTT3) (f := 1) rfl (by decide)
    have f2 := (hF s 2 (by simp)).trans F2.1
    have f3 := (hF s 3 (by simp)).trans F2.2
    have e1 : rN hp 3 1 = rN hp0 3 1 := bFx_n hF (by simp; omega)
    refine xild 19 ⟨u89, _, rfl⟩ rfl rfl ?_
    refine xald 20 ⟨u89, _, rfl⟩ rfl rfl ?_
    refine xgetF 23 (s + 1) hH ⟨u89, _, rfl⟩ rfl (sn_lt hs) (by decide) (sn_T hs) (f2) ?_
    refine xlen 24 hH ⟨u89, _, rfl⟩ rfl (sn_lt1 hs) (sn_T1 hs) (by decide) (by decide) (fun z23 h23 => ?_)
    refine xcmp_ge 27 ⟨u89, _, rfl⟩ rfl (fun c24 => ?_) (fun c24 => ?_)
    · refine xald 45 ⟨u89, _, rfl⟩ rfl rfl ?_
      refine xgetF 48 (s + 2) hH ⟨u89, _, rfl⟩ rfl (sn_lt hs) (by decide) (sn_T hs) (f3) ?_
      refine xald 49 ⟨u89, _, rfl⟩ rfl rfl ?_
      refine xcallC 52 (o := s + 2) [.ref (b)] [] hH ⟨u89, _, rfl⟩ rfl rfl (sn_lt2 hs) (sn_T2 hs) (by decide) rfl ⟨rfl, rfl, rfl, rfl⟩ rfl (k_tyc (Or.inr ⟨s, hs, rfl⟩) hb hne hH (fun hp49 hH49 F49 E49 => ⟨_, rfl, ?_⟩))
      exact xretV ⟨u89, _, rfl⟩ rfl (hR _ hH49 ((hF.mono (by simp)).trans (F49.mono (by simp))) (fun t ht => by rw [bFx_n F49 (by simp)]; exact hA t (by omega) ht) (fun i hi => by rw [E49 i hi, bFx_n hF (by simp; omega)]))
    · omega
  | succ jj ih =>
    intro t w hp hw hj hH hF hA
    have q1 := rb_c hH (c := 3) (by decide) (bTT3) (f := 1) rfl (by decide)
    have f2 := (hF s 2 (by simp)).trans F2.1
    have f3 := (hF s 3 (by simp)).trans F2.2
    have e1 : rN hp 3 1 = rN hp0 3 1 := bFx_n hF (by simp; omega)
    refine xild 19 ⟨u89, _, rfl⟩ rfl rfl ?_
    refine xald 20 ⟨u89, _, rfl⟩ rfl rfl ?_
    refine xgetF 23 (s + 1) hH ⟨u89, _, rfl⟩ rfl (sn_lt hs) (by decide) (sn_T hs) (f2) ?_
    refine xlen 24 hH ⟨u89, _, rfl⟩ rfl (sn_lt1 hs) (sn_T1 hs) (by decide) (by decide) (fun z23 h23 => ?_)
    refine xcmp_ge 27 ⟨u89, _, rfl⟩ rfl (fun c24 => ?_) (fun c24 => ?_)
    · omega
    · refine xald 28 ⟨u89, _, rfl⟩ rfl rfl ?_
      refine xgetF 31 (s + 1) hH ⟨u89, _, rfl⟩ rfl (sn_lt hs) (by decide) (sn_T hs) (f2) ?_
      refine xild 32 ⟨u89, _, rfl⟩ rfl rfl ?_
      refine xald 33 ⟨u89, _, rfl⟩ rfl rfl ?_
      refine xild 34 ⟨u89, _, rfl⟩ rfl rfl ?_
      refine xcallC 37 (o := 3) [.int _] [.int _, .ref (s + 1)] hH ⟨u89, _, rfl⟩ rfl rfl (by decide) rfl (by decide) rfl ⟨rfl, rfl, rfl, rfl⟩ (by simp [amOkS, amOk, sn_lt1 hs]) (k_set (o := 3) (Or.inl rfl) hH (fun z34 h34 => ⟨_, rfl, ?_⟩))
      have bm34 := aMin z34
      have bx34 := aMax z34
      refine xiast 38 (w).toInt.toNat hH ⟨u89, _, rfl⟩ rfl (sn_lt1 hs) (sn_T1 hs) (by omega) (by omega) (by omega) (by omega) (fun hp37 hH37 U37 => ?_)
      have s37 := U37.1
      refine xinc 41 (1) ⟨u89, _, rfl⟩ rfl rfl rfl (by decide) (by omega) (by omega) (fun z38 h38 => ?_)
      refine xgoto ⟨u89, _, rfl⟩ ?_
      exact ih (t + 1) _ hp37 (by omega) (by omega) hH37 (hF.trans (bFx_U U37 (by simp))) (fun j hj2 hj3 => by
        by_cases g : j = t
        · subst g
          have := U37.1
          rw [show w.toInt.toNat = j by omega] at this h34
          rw [this, h34, if_pos (by omega), bFx_n hF (by simp; omega)]
        · rw [rU_ne U37 (by omega)]
          exact hA j (by omega) hj3)
/-- a system kept -/
theorem k_keep {d : Nat} {hp : amH} {R : xQ} {s V : Nat} {T : sT} (hs : sn s) (F2 : snF hp s) (hH : bHk 84 bTT hp) (hB : bdOk hp 3 V T) (hL : lsN hp 3 T 225)
    (hR : ∀ hp1, bHk 84 bTT hp1 → bFx [s, s + 1, s + 2] hp hp1 → snF hp1 s → snOk hp1 s (V, T, rN hp 13) → R (.inl none) hp1) : xK (d + 1) 89 [.ref s, .ref 3, .ref 13] hp R := by
  have c := sn_c hs
  have bV := hB.1
  have hV := hB.2.1.2.1
  have b1 := rb_c hH (c := 3) (by decide) (bTT3) (f := 1) rfl (by decide)
  refine xin (M := am_m89) rfl rfl (by unfold xAv; simp [amOk, sn_lt hs, Value.category]) ?_
  refine xald 1 ⟨u89, _, rfl⟩ rfl rfl ?_
  refine xald 2 ⟨u89, _, rfl⟩ rfl rfl ?_
  refine xgetC 5 hH ⟨u89, _, rfl⟩ rfl (by decide) (by decide) rfl rfl (by decide) (fun z2 h2 => ?_)
  refine xputC 8 hH ⟨u89, _, rfl⟩ rfl (sn_lt hs) (by decide) (sn_T hs) rfl (by decide) ⟨rfl, rfl⟩ (by omega) (by omega) (fun hp5 hH5 U5 => ?_)
  have s5 := U5.1
  have n5_3_0 : rN hp5 (3) 0 = rN hp (3) 0 := rU_ne U5 (by omega)
  have n5_3_1 : rN hp5 (3) 1 = rN hp (3) 1 := rU_ne U5 (by omega)
  refine xald 9 ⟨u89, _, rfl⟩ rfl rfl ?_
  refine xald 10 ⟨u89, _, rfl⟩ rfl rfl ?_
  refine xgetC 13 hH5 ⟨u89, _, rfl⟩ rfl (by decide) (by decide) rfl rfl (by decide) (fun z10 h10 => ?_)
  refine xputC 16 hH5 ⟨u89, _, rfl⟩ rfl (sn_lt hs) (by decide) (sn_T hs) rfl (by decide) ⟨rfl, rfl⟩ (by omega) (by omega) (fun hp13 hH13 U13 => ?_)
  have s13 := U13.1
  have n13_3_0 : rN hp13 (3) 0 = rN hp5 (3) 0 := rU_ne U13 (by omega)
  have n13_3_1 : rN hp13 (3) 1 = rN hp5 (3) 1 := rU_ne U13 (by omega)
  refine xcst 17 (0) ⟨u89, _, rfl⟩ rfl (by decide) (fun z16 h16 => ?_)
  refine xist 18 ⟨u89, _, rfl⟩ rfl rfl ?_
  have F13 : bFx [s] hp hp13 := (bFx_U U5 (by simp)).trans (bFx_U U13 (by simp))
  have g2 : snF hp13 s := ⟨((U13.2 s 2 (by omega)).trans (U5.2 s 2 (by omega))).trans F2.1, ((U13.2 s 3 (by omega)).trans (U5.2 s 3 (by omega))).trans F2.2⟩
  exact l89 (b := 13) hs (Or.inl rfl) (by omega) (by omega) g2 (fun hp1 k1 k2 k3 k4 => hR hp1 k1 ((F13.mono (by simp)).trans (k2.mono (by simp))) ⟨(k2 s 2 (by simp)).trans g2.1, (k2 s 3 (by simp)).trans g2.2⟩ ⟨by rw [bFx_n k2 (by simp)]; have u5 := U5.1; have := rU_ne U13 (c1 := s) (i1 := 0) (by omega); show rN hp13 s 0 = (V : Int); omega, hB.2.1, hB.2.2.2.1, by rw [bFx_n k2 (by simp), U13.1, h10, rU_ne U5 (by omega)]; exact hL.1, fun t ht => by
    have ht : t < (trL T 225).length := ht
    have l1 := hL.1
    have l2 := hL.2.1 t ht
    rw [k3 t (by rw [bFx_n F13 (by simp; omega)]; omega), bFx_n F13 (by simp; omega)]
    exact l2, fun i hi => by rw [k4 i hi, bFx_n F13 (by simp; omega)]⟩) 35 0 _ hp13 (by omega) (by omega) hH13 bFx.refl (fun j hj => absurd hj (Nat.not_lt_zero j))
end
/-! ##### 19.m.035.31b ##### -/
section
/-! ===== the class keeps what was ===== -/
theorem sn_mod {s : Nat} (h : sn s) : s % 3 = 1 ∧ 16 ≤ s ∧ s ≤ 46 := by have := sn_c h; omega
theorem sn_is {hp : amH} {s : Nat} (hH : bHk 84 bTT hp) (h : sn s) : amIsSn hp (.ref s) = true := by
  obtain ⟨vs, g1, -⟩ := x_row2 hH (sn_lt h) (sn_T h)
  simp [amIsSn, g1]
theorem sn_bY {s : Nat} (h : sn s) : bYr 84 (.inr (.inr [16, 19, 22, 25, 28, 31, 34, 37, 40, 43, 46])) (.ref s) := ⟨s, rfl, sn_lt h, h⟩
/-- what the class keeps: how many, which; the saved one -/
def hyS (hp : amH) (sv : Option sR) : Prop := match sv with
  | none => rN hp 14 3 = 0
  | some q => rN hp 14 3 = 1 ∧ snOk hp 16 q
def hyA (hp : amH) (f : Nat → Nat) : Prop := (∀ k, k < 10 → sn (f k) ∧ ¬ f k = 16 ∧ bFld hp 15 k = some (.ref (f k))) ∧ ∀ j k, j < 10 → k < 10 → f j = f k → j = k
def hyC (hp : amH) (n : Nat) (h : Nat → sR) (sv : Option sR) : Prop := rN hp 14 0 = (n : Int) ∧ n ≤ 10 ∧ (∀ s, sn s → snF hp s) ∧ (∃ f, hyA hp f ∧ ∀ k, k < n → snOk hp (f k) (h k)) ∧ hyS hp sv
def hyF (hp hp1 : amH) : Prop := ∀ c k, ¬ (14 ≤ c ∧ c ≤ 48) → bFld hp1 c k = bFld hp c k
theorem hyF.trans {a b c : amH} (h1 : hyF a b) (h2 : hyF b c) : hyF a c := fun i k e => (h2 i k e).trans (h1 i k e)
theorem hyF_n {hp hp1 : amH} (h : hyF hp hp1) {c k : Nat} (e : ¬ (14 ≤ c ∧ c ≤ 48)) : rN hp1 c k = rN hp c k := rN_eq (h c k e)
theorem hyF_V {hp hp1 : amH} {c i : Nat} {v : Value} (U : rV hp hp1 c i v) (h : 14 ≤ c ∧ c ≤ 48) : hyF hp hp1 := fun c1 k e => U.2 c1 k (fun z => e (by rw [z.1]; exact h))
theorem hyF_U {hp hp1 : amH} {c i : Nat} {m : Int} (U : rU hp hp1 c i m) (h : 14 ≤ c ∧ c ≤ 48) : hyF hp hp1 := fun c1 k e => U.2 c1 k (fun z => e (by rw [z.1]; exact h))
theorem hyF_x {W : List Nat} {hp hp1 : amH} (F : bFx W hp hp1) (h : ∀ c, c ∈ W → 14 ≤ c ∧ c ≤ 48) : hyF hp hp1 := fun c1 k e => F c1 k (fun z => e (h c1 z))
/-- the first row goes to the end -/
theorem l51 {d : Nat} {hp0 : amH} {R : xQ} {f : Nat → Nat} (hA : hyA hp0 f)
    (hR : ∀ hp1, bHk 84 bTT hp1 → hyF hp0 hp1 → (∀ c k, ¬ c = 15 → ¬ (c = 14 ∧ k = 0) → bFld hp1 c k = bFld hp0 c k) → rN hp1 14 0 = 9 → (∀ k, k < 9 → bFld hp1 15 k = some (.ref (f (k + 1)))) → bFld hp1 15 9 = some (.ref (f 0)) → R (.inl none) hp1) :
    ∀ (jj t : Nat) (w : Int32) (hp : amH), w.toInt = (t : Int) → 1 ≤ t → t + jj = 10 → bHk 84 bTT hp → (∀ c k, ¬ c = 15 → bFld hp c k = bFld hp0 c k) → (∀ k, k + 1 < t → bFld hp 15 k = some (.ref (f (k + 1)))) → (∀ k, t ≤ k + 1 → k < 10 → bFld hp 15 k = some (.ref (f k))) → xV d am_m51 9 [some (.ref 14), some (.ref (f 0)), some (.int w)] [] hp R := by
  intro jj
  induction jj with
  | zero =>
    intro t w hp hw ht hj hH hF h1 h2
    refine xild 10 ⟨u51, _, rfl⟩ rfl rfl ?_
    refine xald 11 ⟨u51, _, rfl⟩ rfl rfl ?_
    refine xgetD 14 (15) hH ⟨u51, _, rfl⟩ rfl (by decide) (by decide) rfl rfl (by decide) ?_
    refine xlen 15 hH ⟨u51, _, rfl⟩ rfl (by decide) rfl (by decide) (by decide) (fun z14 h14 => ?_)
    refine xcmp_ge 18 ⟨u51, _, rfl⟩ rfl (fun c15 => ?_) (fun c15 => ?_)
    · refine xald 39 ⟨u51, _, rfl⟩ rfl rfl ?_
      refine xgetD 42 (15) hH ⟨u51, _, rfl⟩ rfl (by decide) (by decide) rfl rfl (by decide) ?_
      refine xald 43 ⟨u51, _, rfl⟩ rfl rfl ?_
      refine xgetD 46 (15) hH ⟨u51, _, rfl⟩ rfl (by decide) (by decide) rfl rfl (by decide) ?_
      refine xlen 47 hH ⟨u51, _, rfl⟩ rfl (by decide) rfl (by decide) (by decide) (fun z46 h46 => ?_)
      refine xcst 48 (1) ⟨u51, _, rfl⟩ rfl (by decide) (fun z47 h47 => ?_)
      refine xsub 49 _ ⟨u51, _, rfl⟩ rfl rfl (by omega) (by omega) (fun z48 h48 => ?_)
      refine xald 50 ⟨u51, _, rfl⟩ rfl rfl ?_
      refine xaast 51 (9) (f 0) hH ⟨u51, _, rfl⟩ rfl (by decide) rfl (by omega) (by omega) rfl (sn_bY (hA.1 0 (by omega)).1) (sn_is hH (hA.1 0 (by omega)).1) (fun hp50 hH50 U50 => ?_)
      refine xald 52 ⟨u51, _, rfl⟩ rfl rfl ?_
      refine xald 53 ⟨u51, _, rfl⟩ rfl rfl ?_
      refine xgetD 56 (15) hH50 ⟨u51, _, rfl⟩ rfl (by decide) (by decide) rfl rfl (by decide) ?_
      refine xlen 57 hH50 ⟨u51, _, rfl⟩ rfl (by decide) rfl (by decide) (by decide) (fun z56 h56 => ?_)
      refine xcst 58 (1) ⟨u51, _, rfl⟩ rfl (by decide) (fun z57 h57 => ?_)
      refine xsub 59 _ ⟨u51, _, rfl⟩ rfl rfl (by omega) (by omega) (fun z58 h58 => ?_)
      refine xputC 62 hH50 ⟨u51, _, rfl⟩ rfl (by decide) (by decide) rfl rfl (by decide) ⟨rfl, rfl⟩ (by omega) (by omega) (fun hp59 hH59 U59 => ?_)
      have s59 := U59.1
      exact xretV ⟨u51, _, rfl⟩ rfl (hR hp59 hH59 (hyF.trans (b := hp) (fun c k e => hF c k (by omega)) ((hyF_V U50 (by decide)).trans (hyF_U U59 (by decide)))) (fun c k e1 e2 => (U59.2 c k (fun z => e2 ⟨z.1, z.2⟩)).trans ((U50.2 c k (fun z => e1 z.1)).trans (hF c k e1))) (by omega) (fun k hk => (U59.2 15 k (by omega)).trans ((U50.2 15 k (by omega)).trans (h1 k (by omega)))) ((U59.2 15 9 (by omega)).trans U50.1))
    · omega
  | succ jj ih =>
    intro t w hp hw ht hj hH hF h1 h2
    refine xild 10 ⟨u51, _, rfl⟩ rfl rfl ?_
    refine xald 11 ⟨u51, _, rfl⟩ rfl rfl ?_
    refine xgetD 14 (15) hH ⟨u51, _, rfl⟩ rfl (by decide) (by decide) rfl rfl (by decide) ?_
    refine xlen 15 hH ⟨u51, _, rfl⟩ rfl (by decide) rfl (by decide) (by decide) (fun z14 h14 => ?_)
    refine xcmp_ge 18 ⟨u51, _, rfl⟩ rfl (fun c15 => ?_) (fun c15 => ?_)
    · omega
    · refine xald 19 ⟨u51, _, rfl⟩ rfl rfl ?_
      refine xgetD 22 (15) hH ⟨u51, _, rfl⟩ rfl (by decide) (by decide) rfl rfl (by decide) ?_
      refine xild 23 ⟨u51, _, rfl⟩ rfl rfl ?_
      refine xcst 24 (1) ⟨u51, _, rfl⟩ rfl (by decide) (fun z23 h23 => ?_)
      refine xsub 25 _ ⟨u51, _, rfl⟩ rfl rfl (by omega) (by omega) (fun z24 h24 => ?_)
      refine xald 26 ⟨u51, _, rfl⟩ rfl rfl ?_
      refine xgetD 29 (15) hH ⟨u51, _, rfl⟩ rfl (by decide) (by decide) rfl rfl (by decide) ?_
      refine xild 30 ⟨u51, _, rfl⟩ rfl rfl ?_
      refine xaald 31 (t) (f t) hH ⟨u51, _, rfl⟩ rfl (by decide) rfl (by omega) (by omega) (h2 t (by omega) (by omega)) ?_
      refine xaast 32 (t - 1) (f t) hH ⟨u51, _, rfl⟩ rfl (by decide) rfl (by omega) (by omega) rfl (sn_bY (hA.1 t (by omega)).1) (sn_is hH (hA.1 t (by omega)).1) (fun hp31 hH31 U31 => ?_)
      refine xinc 35 (1) ⟨u51, _, rfl⟩ rfl rfl rfl (by decide) (by omega) (by omega) (fun z32 h32 => ?_)
      refine xgoto ⟨u51, _, rfl⟩ ?_
      exact ih (t + 1) _ hp31 (by omega) (by omega) (by omega) hH31 (fun c k e => (U31.2 c k (fun z => e z.1)).trans (hF c k e)) (fun k hk => by
        by_cases g : k = t - 1
        · rw [g, U31.1, show t - 1 + 1 = t by omega]
        · rw [U31.2 15 k (by omega)]
          exact h1 k (by omega)) (fun k hk1 hk2 => by
        rw [U31.2 15 k (by omega)]
        exact h2 k (by omega) hk2)
theorem k_fgo {d : Nat} {hp : amH} {R : xQ} {f : Nat → Nat} (hA : hyA hp f) (hH : bHk 84 bTT hp)
    (hR : ∀ hp1, bHk 84 bTT hp1 → hyF hp hp1 → (∀ c k, ¬ c = 15 → ¬ (c = 14 ∧ k = 0) → bFld hp1 c k = bFld hp c k) → rN hp1 14 0 = 9 → (∀ k, k < 9 → bFld hp1 15 k = some (.ref (f (k + 1)))) → bFld hp1 15 9 = some (.ref (f 0)) → R (.inl none) hp1) : xK d 51 [.ref 14] hp R := by
  refine xin (M := am_m51) rfl rfl rfl ?_
  refine xald 1 ⟨u51, _, rfl⟩ rfl rfl ?_
  refine xgetD 4 (15) hH ⟨u51, _, rfl⟩ rfl (by decide) (by decide) rfl rfl (by decide) ?_
  refine xcst 5 (0) ⟨u51, _, rfl⟩ rfl (by decide) (fun z4 h4 => ?_)
  refine xaald 6 (0) (f 0) hH ⟨u51, _, rfl⟩ rfl (by decide) rfl (by omega) (by omega) ((hA.1 0 (by decide)).2.2) ?_
  refine xast 7 ⟨u51, _, rfl⟩ rfl rfl (by simp [amOk, sn_lt (hA.1 0 (by decide)).1]) ?_
  refine xcst 8 (1) ⟨u51, _, rfl⟩ rfl (by decide) (fun z7 h7 => ?_)
  refine xist 9 ⟨u51, _, rfl⟩ rfl rfl ?_
  exact l51 hA hR 9 1 _ hp (by omega) (by omega) (by omega) hH (fun _ _ _ => rfl) (fun k hk => absurd hk (by omega)) (fun k _ hk => (hA.1 k hk).2.2)
/-- how many are kept behind a push, and which -/
def pM (n : Nat) : Nat := if n = 10 then 9 else n
def pH (n : Nat) (h : Nat → sR) (q : sR) : Nat → sR := fun k => if k = pM n then q else if n = 10 then h (k + 1) else h k
theorem hyS_fr {hp hp1 : amH} {sv : Option sR} (h : hyS hp sv) (e : rN hp1 14 3 = rN hp 14 3) (F : ∀ c, 16 ≤ c → c ≤ 18 → ∀ k, bFld hp1 c k = bFld hp c k) : hyS hp1 sv := by
  cases sv with
  | none => exact e.trans h
  | some q => exact ⟨e.trans h.1, snOk_fr h.2 F⟩
theorem k_push {d n V : Nat} {h : Nat → sR} {sv : Option sR} {T : sT} {hp : amH} {R : xQ} (hH : bHk 84 bTT hp) (hY : hyC hp n h sv) (hB : bdOk hp 3 V T) (hL : lsN hp 3 T 225)
    (hR : ∀ hp1, bHk 84 bTT hp1 → hyF hp hp1 → hyC hp1 (pM n + 1) (pH n h (V, T, rN hp 13)) sv → R (.inl none) hp1) : xK (d + 2) 50 [.ref 14, .ref 3, .ref 13] hp R := by
  obtain ⟨y1, y2, y3, ⟨f, hA, y4⟩, y5⟩ := hY
  -- behind the place made
  have key : ∀ hp2, bHk 84 bTT hp2 → hyF hp hp2 → ∀ g : Nat → Nat, hyA hp2 g → (∀ s, sn s → snF hp2 s) → rN hp2 14 0 = ((pM n : Nat) : Int) → (∀ k, k < pM n → snOk hp2 (g k) (if n = 10 then h (k + 1) else h k)) → hyS hp2 sv → xV (d + 2) am_m50 16 [some (.ref 14), some (.ref 3), some (.ref 13)] [] hp2 R := by
    intro hp2 hH hF g hA a1 a2 a3 a4
    have pm : pM n ≤ 9 := by unfold pM; split <;> omega
    have hBB : bdOk hp2 3 V T := bdOk_fr hB (hyF_n hF (by omega)) (fun i => hyF_n hF (by omega)) (fun i => hyF_n hF (by omega))
    have hLL : lsN hp2 3 T 225 := lsN_fr hL (hyF_n hF (by omega)) (fun i => hyF_n hF (by omega)) (fun i => hyF_n hF (by omega))
    have e13 : rN hp2 13 = rN hp 13 := funext fun i => hyF_n hF (by omega)
    obtain ⟨m1, m2, m3⟩ := hA.1 (pM n) (by omega)
    have mm := sn_mod m1
    refine xald 17 ⟨u50, _, rfl⟩ rfl rfl ?_
    refine xgetC 20 hH ⟨u50, _, rfl⟩ rfl (by decide) (by decide) rfl rfl (by decide) (fun z17 h17 => ?_)
    refine xald 21 ⟨u50, _, rfl⟩ rfl rfl ?_
    refine xgetD 24 (15) hH ⟨u50, _, rfl⟩ rfl (by decide) (by decide) rfl rfl (by decide) ?_
    refine xlen 25 hH ⟨u50, _, rfl⟩ rfl (by decide) rfl (by decide) (by decide) (fun z24 h24 => ?_)
    refine xcmp_ge 28 ⟨u50, _, rfl⟩ rfl (fun c25 => ?_) (fun c25 => ?_)
    · omega
    · refine xald 29 ⟨u50, _, rfl⟩ rfl rfl ?_
      refine xgetD 32 (15) hH ⟨u50, _, rfl⟩ rfl (by decide) (by decide) rfl rfl (by decide) ?_
      refine xald 33 ⟨u50, _, rfl⟩ rfl rfl ?_
      refine xgetC 36 hH ⟨u50, _, rfl⟩ rfl (by decide) (by decide) rfl rfl (by decide) (fun z33 h33 => ?_)
      refine xaald 37 (pM n) (g (pM n)) hH ⟨u50, _, rfl⟩ rfl (by decide) rfl (by omega) (by omega) (m3) ?_
      refine xnull 40 ⟨u50, _, rfl⟩ rfl ?_
      refine xald 41 ⟨u50, _, rfl⟩ rfl rfl ?_
      refine xgetD 44 (15) hH ⟨u50, _, rfl⟩ rfl (by decide) (by decide) rfl rfl (by decide) ?_
      refine xald 45 ⟨u50, _, rfl⟩ rfl rfl ?_
      refine xgetC 48 hH ⟨u50, _, rfl⟩ rfl (by decide) (by decide) rfl rfl (by decide) (fun z45 h45 => ?_)
      refine xaald 49 (pM n) (g (pM n)) hH ⟨u50, _, rfl⟩ rfl (by decide) rfl (by omega) (by omega) (m3) ?_
      refine xald 50 ⟨u50, _, rfl⟩ rfl rfl ?_
      refine xald 51 ⟨u50, _, rfl⟩ rfl rfl ?_
      refine xcallC 54 (o := g (pM n)) [.ref 3, .ref 13] [] hH ⟨u50, _, rfl⟩ rfl rfl (sn_lt m1) (sn_T m1) (by decide) rfl ⟨rfl, rfl, rfl, rfl⟩ rfl (k_keep m1 (a1 _ m1) hH hBB hLL (fun hp51 hH51 F51 f51 s51 => ⟨_, rfl, ?_⟩))
      refine xald 55 ⟨u50, _, rfl⟩ rfl rfl ?_
      refine xdup 56 ⟨u50, _, rfl⟩ rfl rfl ?_
      have e51 : rN hp51 14 0 = rN hp2 14 0 := bFx_n F51 (by simp; omega)
      refine xgetC 59 hH51 ⟨u50, _, rfl⟩ rfl (by decide) (by decide) rfl rfl (by decide) (fun z56 h56 => ?_)
      refine xcst 60 (1) ⟨u50, _, rfl⟩ rfl (by decide) (fun z59 h59 => ?_)
      refine xadd 61 _ ⟨u50, _, rfl⟩ rfl rfl (by omega) (by omega) (fun z60 h60 => ?_)
      refine xputC 64 hH51 ⟨u50, _, rfl⟩ rfl (by decide) (by decide) rfl rfl (by decide) ⟨rfl, rfl⟩ (by omega) (by omega) (fun hp61 hH61 U61 => ?_)
      have s61 := U61.1
      refine xretV ⟨u50, _, rfl⟩ rfl (hR hp61 hH61 (hF.trans ((hyF_x F51 (fun c hc => by simp at hc; omega)).trans (hyF_U U61 (by decide)))) ⟨by rw [U61.1]; omega, by omega, fun s hs => ?_, ⟨g, ⟨fun k hk => ⟨(hA.1 k hk).1, (hA.1 k hk).2.1, ?_⟩, hA.2⟩, fun k hk => ?_⟩, hyS_fr a4 ((rU_ne U61 (by omega)).trans (bFx_n F51 (by simp; omega))) (fun c c1 c2 k => (U61.2 c k (by omega)).trans (F51 c k (by simp; omega)))⟩)
      · by_cases e : s = g (pM n)
        · subst e
          exact ⟨(U61.2 _ 2 (by omega)).trans f51.1, (U61.2 _ 3 (by omega)).trans f51.2⟩
        · have := sn_mod hs
          exact ⟨(U61.2 _ 2 (by omega)).trans ((F51 _ 2 (by simp; omega)).trans (a1 s hs).1), (U61.2 _ 3 (by omega)).trans ((F51 _ 3 (by simp; omega)).trans (a1 s hs).2)⟩
      · exact (U61.2 15 k (by omega)).trans ((F51 15 k (by simp; omega)).trans (hA.1 k hk).2.2)
      · unfold pH
        by_cases e : k = pM n
        · rw [if_pos e, e]
          refine snOk_fr ?_ (fun c c1 c2 k => U61.2 c k (by omega))
          rw [← e13]
          exact s51
        · rw [if_neg e]
          have k1 := (hA.1 k (by omega)).1
          have k2 := sn_mod k1
          have k3 : ¬ g k = g (pM n) := fun z => e (hA.2 k (pM n) (by omega) (by omega) z)
          exact snOk_fr (a3 k (by omega)) (fun c c1 c2 j => (U61.2 c j (by omega)).trans (F51 c j (by simp; omega)))
  refine xin (M := am_m50) rfl rfl rfl ?_
  refine xald 1 ⟨u50, _, rfl⟩ rfl rfl ?_
  refine xgetC 4 hH ⟨u50, _, rfl⟩ rfl (by decide) (by decide) rfl rfl (by decide) (fun z1 h1 => ?_)
  refine xald 5 ⟨u50, _, rfl⟩ rfl rfl ?_
  refine xgetD 8 (15) hH ⟨u50, _, rfl⟩ rfl (by decide) (by decide) rfl rfl (by decide) ?_
  refine xlen 9 hH ⟨u50, _, rfl⟩ rfl (by decide) rfl (by decide) (by decide) (fun z8 h8 => ?_)
  refine xcmp_ne 12 ⟨u50, _, rfl⟩ rfl (fun c9 => ?_) (fun c9 => ?_)
  · have en : ¬ n = 10 := by omega
    have pm : pM n = n := by unfold pM; rw [if_neg en]
    exact key hp hH (fun _ _ _ => rfl) f hA y3 (by rw [pm]; exact y1) (fun k hk => by simp only [if_neg en]; exact y4 k (by omega)) y5
  · refine xald 13 ⟨u50, _, rfl⟩ rfl rfl ?_
    refine xcallC 16 (o := 14) [] [] hH ⟨u50, _, rfl⟩ rfl rfl (by decide) rfl (by decide) rfl ⟨rfl, rfl, rfl, rfl⟩ rfl (k_fgo hA hH (fun hp13 hH13 F13 G13 e13 A13 B13 => ⟨_, rfl, ?_⟩))
    have en : n = 10 := by omega
    have pm : pM n = 9 := by unfold pM; rw [if_pos en]
    exact key hp13 hH13 F13 (fun k => if k = 9 then f 0 else f (k + 1)) ⟨fun k hk => by
      by_cases g : k = 9
      · subst g
        simp only [if_true]
        exact ⟨(hA.1 0 (by decide)).1, (hA.1 0 (by decide)).2.1, B13⟩
      · simp only [if_neg g]
        exact ⟨(hA.1 (k + 1) (by omega)).1, (hA.1 (k + 1) (by omega)).2.1, A13 k (by omega)⟩, fun j k hj hk e => by
      by_cases g1 : j = 9
      · by_cases g2 : k = 9
        · omega
        · simp only [if_pos g1, if_neg g2] at e
          have := hA.2 0 (k + 1) (by omega) (by omega) e
          omega
      · by_cases g2 : k = 9
        · simp only [if_neg g1, if_pos g2] at e
          have := hA.2 (j + 1) 0 (by omega) (by omega) e
          omega
        · simp only [if_neg g1, if_neg g2] at e
          have := hA.2 (j + 1) (k + 1) (by omega) (by omega) e
          omega⟩ (fun s hs => by
      have := sn_mod hs
      exact ⟨(G13 s 2 (by omega) (by omega)).trans (y3 s hs).1, (G13 s 3 (by omega) (by omega)).trans (y3 s hs).2⟩) (by rw [e13, pm]; rfl) (fun k hk => by
      have k1 := sn_mod (hA.1 (k + 1) (by omega)).1
      simp only [if_pos en, if_neg (show ¬ k = 9 by omega)]
      exact snOk_fr (y4 (k + 1) (by omega)) (fun c c1 c2 j => G13 c j (by omega) (by omega))) (hyS_fr y5 (rN_eq (G13 14 3 (by decide) (by decide))) (fun c c1 c2 k => G13 c k (by omega) (by omega)))
theorem k_cmem {d n V : Nat} {h : Nat → sR} {sv : Option sR} {T : sT} {hp : amH} {R : xQ} (hH : bHk 84 bTT hp) (hY : hyC hp n h sv) (hB : bdOk hp 3 V T) (hL : lsN hp 3 T 225)
    (hR : ∀ hp1, bHk 84 bTT hp1 → hyF hp hp1 → hyC hp1 (pM n + 1) (pH n h (V, T, rN hp 13)) sv → R (.inl none) hp1) : xK (d + 3) 184 [.ref 0] hp R := by
  refine xin (M := am_m184) rfl rfl rfl ?_
  refine xald 1 ⟨u184, _, rfl⟩ rfl rfl ?_
  refine xgetD 4 (14) hH ⟨u184, _, rfl⟩ rfl (by decide) (by decide) rfl rfl (by decide) ?_
  refine xald 5 ⟨u184, _, rfl⟩ rfl rfl ?_
  refine xgetD 8 (3) hH ⟨u184, _, rfl⟩ rfl (by decide) (by decide) rfl rfl (by decide) ?_
  refine xald 9 ⟨u184, _, rfl⟩ rfl rfl ?_
  refine xgetD 12 (13) hH ⟨u184, _, rfl⟩ rfl (by decide) (by decide) rfl rfl (by decide) ?_
  refine xcallC 15 (o := 14) [.ref 3, .ref 13] [] hH ⟨u184, _, rfl⟩ rfl rfl (by decide) rfl (by decide) rfl ⟨rfl, rfl, rfl, rfl⟩ rfl (k_push hH hY hB hL (fun hp12 hH12 F12 Y12 => ⟨_, rfl, ?_⟩))
  exact xretV ⟨u184, _, rfl⟩ rfl (hR _ hH12 F12 Y12)
end
/-! ##### 19.m.036.31c ##### -/
section
/-! ===== a system built of the triples of another, one by one (pure) ===== -/
/-- the number of the triple of a pair: its two smaller points -/
def cd (T : sT) (u v : Nat) : Nat := 15 * min u (min v (T u v).toNat) + (u + v + (T u v).toNat - min u (min v (T u v).toNat) - max u (max v (T u v).toNat))
/-- the triples numbered below n, moved by a map of points -/
def pG (σ : Nat → Nat) (T : sT) : Nat → sT
  | 0 => sE
  | n + 1 => if trB T n = true then sPut (pG σ T n) (σ (n / 15)) (σ (n % 15)) (σ (T (n / 15) (n % 15)).toNat) else pG σ T n
/-- a map of the points onto themselves -/
def sPm (V : Nat) (σ : Nat → Nat) : Prop := (∀ u, u < V → σ u < V) ∧ (∀ u v, u < V → v < V → σ u = σ v → u = v) ∧ ∀ p, p < V → ∃ u, u < V ∧ σ u = p
theorem sPm_id {V : Nat} : sPm V id := ⟨fun _ h => h, fun _ _ _ _ h => h, fun p h => ⟨p, h, rfl⟩⟩
theorem cd_of {V : Nat} {T : sT} (hT : sOk V T) {u v : Nat} (h : ¬ T u v = -1) : trB T (cd T u v) = true ∧ cd T u v < 225 ∧ sPr (cd T u v / 15) (cd T u v % 15) (T (cd T u v / 15) (cd T u v % 15)).toNat u v := by
  obtain ⟨w, ew, h1, h2, h3, h4, h5, h6, t1, t2, t3, t4, t5⟩ := sOk_at hT rfl h
  have hV := hT.2.1
  unfold cd
  rw [ew, Int.toNat_natCast]
  rcases Nat.lt_trichotomy u v with a | a | a
  · rcases Nat.lt_trichotomy v w with b | b | b
    · -- u < v < w
      have e : 15 * min u (min v w) + (u + v + w - min u (min v w) - max u (max v w)) = 15 * u + v := by omega
      rw [e, show (15 * u + v) / 15 = u by omega, show (15 * u + v) % 15 = v by omega, ew, Int.toNat_natCast]
      exact ⟨decide_eq_true (by rw [show (15 * u + v) / 15 = u by omega, show (15 * u + v) % 15 = v by omega, ew]; omega), by omega, by omega⟩
    · omega
    · rcases Nat.lt_trichotomy u w with c | c | c
      · -- u < w < v
        have e : 15 * min u (min v w) + (u + v + w - min u (min v w) - max u (max v w)) = 15 * u + w := by omega
        rw [e, show (15 * u + w) / 15 = u by omega, show (15 * u + w) % 15 = w by omega, t2, Int.toNat_natCast]
        exact ⟨decide_eq_true (by rw [show (15 * u + w) / 15 = u by omega, show (15 * u + w) % 15 = w by omega, t2]; omega), by omega, by omega⟩
      · omega
      · -- w < u < v
        have e : 15 * min u (min v w) + (u + v + w - min u (min v w) - max u (max v w)) = 15 * w + u := by omega
        rw [e, show (15 * w + u) / 15 = w by omega, show (15 * w + u) % 15 = u by omega, t4, Int.toNat_natCast]
        exact ⟨decide_eq_true (by rw [show (15 * w + u) / 15 = w by omega, show (15 * w + u) % 15 = u by omega, t4]; omega), by omega, by omega⟩
  · omega
  · rcases Nat.lt_trichotomy u w with b | b | b
    · -- v < u < w
      have e : 15 * min u (min v w) + (u + v + w - min u (min v w) - max u (max v w)) = 15 * v + u := by omega
      rw [e, show (15 * v + u) / 15 = v by omega, show (15 * v + u) % 15 = u by omega, t1, Int.toNat_natCast]
      exact ⟨decide_eq_true (by rw [show (15 * v + u) / 15 = v by omega, show (15 * v + u) % 15 = u by omega, t1]; omega), by omega, by omega⟩
    · omega
    · rcases Nat.lt_trichotomy v w with c | c | c
      · -- v < w < u
        have e : 15 * min u (min v w) + (u + v + w - min u (min v w) - max u (max v w)) = 15 * v + w := by omega
        rw [e, show (15 * v + w) / 15 = v by omega, show (15 * v + w) % 15 = w by omega, t3, Int.toNat_natCast]
        exact ⟨decide_eq_true (by rw [show (15 * v + w) / 15 = v by omega, show (15 * v + w) % 15 = w by omega, t3]; omega), by omega, by omega⟩
      · omega
      · -- w < v < u
        have e : 15 * min u (min v w) + (u + v + w - min u (min v w) - max u (max v w)) = 15 * w + v := by omega
        rw [e, show (15 * w + v) / 15 = w by omega, show (15 * w + v) % 15 = v by omega, t5, Int.toNat_natCast]
        exact ⟨decide_eq_true (by rw [show (15 * w + v) / 15 = w by omega, show (15 * w + v) % 15 = v by omega, t5]; omega), by omega, by omega⟩
/-- the pairs of the triple numbered n -/
theorem cd_pr {V : Nat} {T : sT} (hT : sOk V T) {n u v : Nat} (hn : trB T n = true) (h : sPr (n / 15) (n % 15) (T (n / 15) (n % 15)).toNat u v) : ((u : Nat) : Int) + v + T u v = ((n / 15 : Nat) : Int) + ((n % 15 : Nat) : Int) + T (n / 15) (n % 15) ∧ ¬ T u v = -1 ∧ cd T u v = n := by
  obtain ⟨z, ez, h1, h2, h3⟩ := tr_pts hT hn
  have hV := hT.2.1
  generalize hx : n / 15 = x at *
  generalize hy : n % 15 = y at *
  rw [ez, Int.toNat_natCast] at h
  obtain ⟨k, ek, -, -, -, k1, k2, k3, t1, t2, t3, t4, t5⟩ := sOk_at hT ez (by omega)
  have : k = z := by omega
  subst this
  obtain ⟨g0, g1, g2⟩ := h
  have en : n = 15 * x + y := by omega
  unfold cd
  rcases g1 with g1 | g1 | g1 <;> rcases g2 with g2 | g2 | g2 <;> rw [g1, g2] <;> first | exact absurd (g1.trans g2.symm) g0 | (simp only [ez, t1, t2, t3, t4, t5, Int.toNat_natCast]; refine ⟨?_, ?_, ?_⟩ <;> first | trivial | omega)
theorem cd_lt {V : Nat} {T : sT} (hT : sOk V T) {u v : Nat} (h : ¬ T u v = -1) : cd T u v < 225 := (cd_of hT h).2.1
theorem pG_s {V : Nat} {T : sT} {σ : Nat → Nat} (hT : sOk V T) (hs : sPm V σ) : ∀ n, sOk V (pG σ T n) ∧ (∀ p q, ¬ (p < V ∧ q < V) → pG σ T n p q = -1) ∧ ∀ u v, u < V → v < V → (pG σ T n (σ u) (σ v) = (((σ (T u v).toNat : Nat)) : Int) ∧ ¬ T u v = -1 ∧ cd T u v < n) ∨ (pG σ T n (σ u) (σ v) = -1 ∧ (¬ T u v = -1 → n ≤ cd T u v))
  | 0 => ⟨sOk_E hT.1 hT.2.1, fun _ _ _ => rfl, fun u v _ _ => Or.inr ⟨rfl, fun _ => Nat.zero_le _⟩⟩
  | n + 1 => by
    obtain ⟨i1, i2, i3⟩ := pG_s hT hs n
    by_cases hb : trB T n = true
    · have e : pG σ T (n + 1) = sPut (pG σ T n) (σ (n / 15)) (σ (n % 15)) (σ (T (n / 15) (n % 15)).toNat) := by
        show (if trB T n = true then _ else _) = _
        rw [if_pos hb]
      obtain ⟨z, ez, h1, h2, h3⟩ := tr_pts hT hb
      have hcd := fun u v => cd_pr hT (u := u) (v := v) hb
      have hV := hT.2.1
      have hcd2 : ∀ u v, ¬ T u v = -1 → cd T u v = n → sPr (n / 15) (n % 15) z u v := fun u v hne en => by
        have g3 := (cd_of hT hne).2.2
        rw [en, ez, Int.toNat_natCast] at g3
        exact g3
      rw [ez, Int.toNat_natCast] at hcd e
      generalize n / 15 = x at *
      generalize n % 15 = y at *
      obtain ⟨s1, s2, s3⟩ := hs
      have free : ∀ u v, sPr x y z u v → pG σ T n (σ u) (σ v) = -1 := fun u v hp => by
        obtain ⟨c1, c2, c3⟩ := hcd u v hp
        rcases i3 u v (by omega) (by omega) with g | g
        · have := g.2.2; omega
        · exact g.1
      have hinj : ∀ u v, u < V → v < V → (sPr (σ x) (σ y) (σ z) (σ u) (σ v) ↔ sPr x y z u v) := fun u v hu hv => by
        constructor
        · rintro ⟨g0, g1, g2⟩
          refine ⟨fun z => g0 (by rw [z]), ?_, ?_⟩
          · rcases g1 with g | g | g
            · exact Or.inl (s2 _ _ hu (by omega) g)
            · exact Or.inr (Or.inl (s2 _ _ hu (by omega) g))
            · exact Or.inr (Or.inr (s2 _ _ hu (by omega) g))
          · rcases g2 with g | g | g
            · exact Or.inl (s2 _ _ hv (by omega) g)
            · exact Or.inr (Or.inl (s2 _ _ hv (by omega) g))
            · exact Or.inr (Or.inr (s2 _ _ hv (by omega) g))
        · rintro ⟨g0, g1, g2⟩
          refine ⟨fun z => g0 (s2 _ _ hu hv z), ?_, ?_⟩
          · rcases g1 with rfl | rfl | rfl <;> simp
          · rcases g2 with rfl | rfl | rfl <;> simp
      have dx : ¬ σ x = σ y := fun z => by have := s2 _ _ (by omega) (by omega) z; omega
      have dy : ¬ σ y = σ z := fun z => by have := s2 _ _ (by omega) (by omega) z; omega
      have dz : ¬ σ x = σ z := fun z => by have := s2 _ _ (by omega) (by omega) z; omega
      have bx := s1 x (by omega)
      have bY := s1 y (by omega)
      have bz := s1 z (by omega)
      rw [e]
      refine ⟨sOk_put i1 bx bY bz dx dy dz ⟨free x y ⟨by omega, by omega, by omega⟩, free y z ⟨by omega, by omega, by omega⟩, free x z ⟨by omega, by omega, by omega⟩⟩, fun p q hpq => ?_, fun u v hu hv => ?_⟩
      · unfold sPut
        rw [if_neg (fun g => hpq (by obtain ⟨-, g1, g2⟩ := g; omega))]
        exact i2 p q hpq
      · unfold sPut
        by_cases hp : sPr x y z u v
        · rw [if_pos ((hinj u v hu hv).mpr hp)]
          obtain ⟨c1, c2, c3⟩ := hcd u v hp
          refine Or.inl ⟨?_, c2, by omega⟩
          obtain ⟨g0, g1, g2⟩ := hp
          rcases g1 with rfl | rfl | rfl <;> rcases g2 with rfl | rfl | rfl <;> first | exact absurd rfl g0 | skip
          · rw [show (T u v).toNat = z by omega]; omega
          · rw [show (T u v).toNat = y by omega]; omega
          · rw [show (T u v).toNat = z by omega]; omega
          · rw [show (T u v).toNat = x by omega]; omega
          · rw [show (T u v).toNat = y by omega]; omega
          · rw [show (T u v).toNat = x by omega]; omega
        · rw [if_neg (fun g => hp ((hinj u v hu hv).mp g))]
          rcases i3 u v hu hv with g | g
          · exact Or.inl ⟨g.1, g.2.1, by have := g.2.2; omega⟩
          · refine Or.inr ⟨g.1, fun hne => ?_⟩
            have g2 := g.2 hne
            by_cases en : cd T u v = n
            · exact absurd (hcd2 u v hne en) hp
            · omega
    · have e : pG σ T (n + 1) = pG σ T n := by
        show (if trB T n = true then _ else _) = _
        rw [if_neg hb]
      rw [e]
      refine ⟨i1, i2, fun u v hu hv => ?_⟩
      rcases i3 u v hu hv with g | g
      · exact Or.inl ⟨g.1, g.2.1, by have := g.2.2; omega⟩
      · refine Or.inr ⟨g.1, fun hne => ?_⟩
        have g2 := g.2 hne
        by_cases en : cd T u v = n
        · exact absurd (by rw [← en]; exact (cd_of hT hne).1) hb
        · omega
end
/-! ##### 19.m.037.31d ##### -/
section
/-! ===== the class gives back what was ===== -/
theorem pG_id {V : Nat} {T : sT} (hT : sOk V T) : pG id T 225 = T := by
  obtain ⟨-, i2, i3⟩ := pG_s hT (sPm_id (V := V)) 225
  funext u v
  by_cases h : u < V ∧ v < V
  · rcases i3 u v h.1 h.2 with g | g
    · obtain ⟨w, ew, -⟩ := sOk_at hT rfl g.2.1
      have g1 : pG id T 225 u v = (((T u v).toNat : Nat) : Int) := g.1
      rw [g1, ew, Int.toNat_natCast]
    · have g1 : pG id T 225 u v = -1 := g.1
      rw [g1]
      by_cases e : T u v = -1
      · exact e.symm
      · have := g.2 e
        have := cd_lt hT e
        omega
  · rw [i2 u v h]
    rcases hT.2.2 u v with g | ⟨c, g1, g2, g3, -⟩
    · exact g.symm
    · exact absurd ⟨g2, g3⟩ h
theorem trL_mono {T : sT} (n : Nat) : ∀ k, (trL T n).length ≤ (trL T (n + k)).length
  | 0 => Nat.le_refl _
  | k + 1 => by
    have := trL_mono (T := T) n k
    have e : (trL T (n + (k + 1))) = (if trB T (n + k) = true then trL T (n + k) ++ [n + k] else trL T (n + k)) := rfl
    rw [e]
    split
    · rw [List.length_append]; omega
    · exact this
theorem pG_len {σ : Nat → Nat} {T : sT} {n : Nat} : ∀ k, (trL T (n + k)).length = (trL T n).length → pG σ T (n + k) = pG σ T n
  | 0, _ => rfl
  | k + 1, h => by
    have e : (trL T (n + (k + 1))) = (if trB T (n + k) = true then trL T (n + k) ++ [n + k] else trL T (n + k)) := rfl
    have e2 : pG σ T (n + (k + 1)) = (if trB T (n + k) = true then sPut (pG σ T (n + k)) (σ ((n + k) / 15)) (σ ((n + k) % 15)) (σ (T ((n + k) / 15) ((n + k) % 15)).toNat) else pG σ T (n + k)) := rfl
    have m := trL_mono (T := T) n k
    rw [e] at h
    rw [e2]
    split at h
    · rw [List.length_append, List.length_singleton] at h
      omega
    · next g =>
      rw [if_neg g]
      exact pG_len k h
theorem pG_eq {σ : Nat → Nat} {T : sT} {n m : Nat} (h : (trL T n).length = (trL T m).length) : pG σ T n = pG σ T m := by
  rcases Nat.le_total n m with g | g
  · obtain ⟨k, rfl⟩ := Nat.exists_eq_add_of_le g
    exact (pG_len k h.symm).symm
  · obtain ⟨k, rfl⟩ := Nat.exists_eq_add_of_le g
    exact pG_len k h
theorem trL_get {T : sT} : ∀ n t, t < (trL T n).length → trB T ((trL T n).getD t 0) = true ∧ (trL T n).getD t 0 < n ∧ (trL T ((trL T n).getD t 0)).length = t
  | 0, t, h => absurd h (Nat.not_lt_zero t)
  | n + 1, t, h => by
    by_cases hb : trB T n = true
    · have e : trL T (n + 1) = trL T n ++ [n] := trL_add hb
      rw [e] at h ⊢
      rw [List.length_append, List.length_singleton] at h
      by_cases g : t = (trL T n).length
      · subst g
        rw [gd_end]
        exact ⟨hb, Nat.lt_succ_self n, rfl⟩
      · rw [gd_app (by omega)]
        obtain ⟨g1, g2, g3⟩ := trL_get (T := T) n t (by omega)
        exact ⟨g1, by omega, g3⟩
    · have e : trL T (n + 1) = trL T n := by
        show (if trB T n = true then _ else _) = _
        rw [if_neg hb]
      rw [e] at h ⊢
      obtain ⟨g1, g2, g3⟩ := trL_get n t h
      exact ⟨g1, by omega, g3⟩
/-- the next triple -/
theorem pG_next {V : Nat} {T : sT} {σ : Nat → Nat} (hT : sOk V T) (hs : sPm V σ) {t m : Nat} (ht : t < (trL T 225).length) (hm : (trL T m).length = t) : ∃ n x y z : Nat, (trL T 225).getD t 0 = n ∧ n / 15 = x ∧ n % 15 = y ∧ T x y = (z : Int) ∧ mk3 T n = m3 x y z ∧ x < y ∧ y < z ∧ z < V ∧ n < 225 ∧ (trL T (n + 1)).length = t + 1 ∧ pG σ T (n + 1) = sPut (pG σ T m) (σ x) (σ y) (σ z) ∧ sFree (pG σ T m) (σ x) (σ y) (σ z) := by
  obtain ⟨g1, g2, g3⟩ := trL_get 225 t ht
  obtain ⟨z, ez, h1, h2, h3⟩ := tr_pts hT g1
  generalize hn : (trL T 225).getD t 0 = n at *
  have e : pG σ T n = pG σ T m := pG_eq (g3.trans hm.symm)
  have el : (trL T (n + 1)).length = t + 1 := by rw [trL_add g1, List.length_append, List.length_singleton, g3]
  refine ⟨n, n / 15, n % 15, z, rfl, rfl, rfl, ez, by unfold mk3; rw [ez, Int.toNat_natCast], h1, h2, h3, g2, el, ?_, ?_⟩
  · show (if trB T n = true then _ else _) = _
    rw [if_pos g1, e, ez, Int.toNat_natCast]
  · obtain ⟨-, -, i3⟩ := pG_s hT hs n
    rw [e] at i3
    have q := fun u v hp => cd_pr hT (u := u) (v := v) g1 hp
    rw [ez, Int.toNat_natCast] at q
    have fr : ∀ u v, u < V → v < V → sPr (n / 15) (n % 15) z u v → pG σ T m (σ u) (σ v) = -1 := fun u v hu hv hp => by
      rcases i3 u v hu hv with k | k
      · have := (q u v hp).2.2
        have := k.2.2
        omega
      · exact k.1
    exact ⟨fr _ _ (by omega) (by omega) ⟨by omega, by omega, by omega⟩, fr _ _ (by omega) (by omega) ⟨by omega, by omega, by omega⟩, fr _ _ (by omega) (by omega) ⟨by omega, by omega, by omega⟩⟩
theorem l90 {d : Nat} {hp0 : amH} {R : xQ} {s V : Nat} {T : sT} {ty : Nat → Int} (hs : sn s) (F2 : snF hp0 s) (hS : snOk hp0 s (V, T, ty))
    (hR : ∀ hp1, bHk 84 bTT hp1 → bFx [3, 4, 6, 13] hp0 hp1 → bdOk hp1 3 V T → (∀ i, i < 3 → rN hp1 13 i = ty i) → R (.inl none) hp1) :
    ∀ (jj t m : Nat) (w : Int32) (hp : amH), w.toInt = (t : Int) → t + jj = (trL T 225).length → (trL T m).length = t → bHk 84 bTT hp → bFx [3, 4, 6] hp0 hp → bdOk hp 3 V (pG id T m) → xV (d + 3) am_m90 10 [some (.ref s), some (.ref 3), some (.ref 13), some (.int w)] [] hp R := by
  have c := sn_c hs
  have S1 : rN hp0 s 1 = (((trL T 225).length : Nat) : Int) := hS.2.2.2.1
  have hT : sOk V T := hS.2.1
  have hV := hT.2.1
  have l35 := trL_35 hT 225
  intro jj
  induction jj with
  | zero =>
    intro t m w hp hw hj hm hH hF hB
    have f2 := (hF s 2 (by simp; omega)).trans F2.1
    have f3 := (hF s 3 (by simp; omega)).trans F2.2
    have e1 : rN hp s 1 = rN hp0 s 1 := bFx_n hF (by simp; omega)
    have eT : pG id T m = T := (pG_eq (by omega)).trans (pG_id hT)
    rw [eT] at hB
    refine xild 11 ⟨u90, _, rfl⟩ rfl rfl ?_
    refine xald 12 ⟨u90, _, rfl⟩ rfl rfl ?_
    refine xgetC 15 hH ⟨u90, _, rfl⟩ rfl (sn_lt hs) (by decide) (sn_T hs) rfl (by decide) (fun z12 h12 => ?_)
    refine xcmp_ge 18 ⟨u90, _, rfl⟩ rfl (fun c15 => ?_) (fun c15 => ?_)
    · refine xald 44 ⟨u90, _, rfl⟩ rfl rfl ?_
      refine xald 45 ⟨u90, _, rfl⟩ rfl rfl ?_
      refine xgetF 48 (s + 2) hH ⟨u90, _, rfl⟩ rfl (sn_lt hs) (by decide) (sn_T hs) (f3) ?_
      refine xcallC 51 (o := 13) [.ref (s + 2)] [] hH ⟨u90, _, rfl⟩ rfl rfl (by decide) rfl (by decide) rfl ⟨rfl, rfl, rfl, rfl⟩ rfl (k_tyc (Or.inl rfl) (Or.inr ⟨s, hs, rfl⟩) (by omega) hH (fun hp48 hH48 F48 E48 => ⟨_, rfl, ?_⟩))
      exact xretV ⟨u90, _, rfl⟩ rfl (hR _ hH48 ((hF.mono (by simp)).trans (F48.mono (by simp))) (bdOk_fr hB (bFx_n F48 (by simp)) (fun i => bFx_n F48 (by simp)) (fun i => bFx_n F48 (by simp))) (fun i hi => by rw [E48 i hi, bFx_n hF (by simp; omega)]; exact hS.2.2.2.2.2 i hi))
    · omega
  | succ jj ih =>
    intro t m w hp hw hj hm hH hF hB
    have f2 := (hF s 2 (by simp; omega)).trans F2.1
    have f3 := (hF s 3 (by simp; omega)).trans F2.2
    have e1 : rN hp s 1 = rN hp0 s 1 := bFx_n hF (by simp; omega)
    obtain ⟨n, x, y, z, k1, k2, k3, k4, k5, k6, k7, k8, k9, k10, k11, k12⟩ := pG_next hT (sPm_id (V := V)) (t := t) (by omega) hm
    have k11 : pG id T (n + 1) = sPut (pG id T m) x y z := k11
    have k12 : sFree (pG id T m) x y z := k12
    have q1 : rN hp (s + 1) t = ((m3 x y z : Nat) : Int) := by
      rw [bFx_n hF (by simp; omega), ← k5, ← k1]
      exact hS.2.2.2.2.1 t (by show t < (trL T 225).length; omega)
    refine xild 11 ⟨u90, _, rfl⟩ rfl rfl ?_
    refine xald 12 ⟨u90, _, rfl⟩ rfl rfl ?_
    refine xgetC 15 hH ⟨u90, _, rfl⟩ rfl (sn_lt hs) (by decide) (sn_T hs) rfl (by decide) (fun z12 h12 => ?_)
    refine xcmp_ge 18 ⟨u90, _, rfl⟩ rfl (fun c15 => ?_) (fun c15 => ?_)
    · omega
    · refine xild 19 ⟨u90, _, rfl⟩ rfl rfl ?_
      refine xald 20 ⟨u90, _, rfl⟩ rfl rfl ?_
      refine xgetF 23 (s + 1) hH ⟨u90, _, rfl⟩ rfl (sn_lt hs) (by decide) (sn_T hs) (f2) ?_
      refine xlen 24 hH ⟨u90, _, rfl⟩ rfl (sn_lt1 hs) (sn_T1 hs) (by decide) (by decide) (fun z23 h23 => ?_)
      refine xcmp_ge 27 ⟨u90, _, rfl⟩ rfl (fun c24 => ?_) (fun c24 => ?_)
      · omega
      · refine xald 28 ⟨u90, _, rfl⟩ rfl rfl ?_
        refine xald 29 ⟨u90, _, rfl⟩ rfl rfl ?_
        refine xgetF 32 (s + 1) hH ⟨u90, _, rfl⟩ rfl (sn_lt hs) (by decide) (sn_T hs) (f2) ?_
        refine xild 33 ⟨u90, _, rfl⟩ rfl rfl ?_
        refine xiald 34 (w).toInt.toNat hH ⟨u90, _, rfl⟩ rfl (sn_lt1 hs) (sn_T1 hs) (by omega) (by omega) (fun z33 h33 => ?_)
        refine xcallC 37 (o := 3) [.int _] [] hH ⟨u90, _, rfl⟩ rfl rfl (by decide) rfl (by decide) rfl ⟨rfl, rfl, rfl, rfl⟩ rfl (k_bput (Or.inl rfl) hH hB (x := x) (y := y) (z := z) (by rw [h33, show w.toInt.toNat = t by omega]; exact q1) (by omega) (by omega) (by omega) k12 (fun hp34 hH34 F34 B34 => ⟨_, rfl, ?_⟩))
        refine xinc 40 (1) ⟨u90, _, rfl⟩ rfl rfl rfl (by decide) (by omega) (by omega) (fun z37 h37 => ?_)
        refine xgoto ⟨u90, _, rfl⟩ ?_
        exact ih (t + 1) (n + 1) _ hp34 (by omega) (by omega) k10 hH34 (hF.trans (F34.mono (by simp))) (by rw [k11]; exact B34)
/-- a snapshot given back -/
theorem k_gvb {d : Nat} {hp : amH} {R : xQ} {s V : Nat} {T : sT} {ty : Nat → Int} (hs : sn s) (F2 : snF hp s) (hS : snOk hp s (V, T, ty)) (hH : bHk 84 bTT hp)
    (hR : ∀ hp1, bHk 84 bTT hp1 → bFx [3, 4, 6, 13] hp hp1 → bdOk hp1 3 V T → (∀ i, i < 3 → rN hp1 13 i = ty i) → R (.inl none) hp1) : xK (d + 3) 90 [.ref s, .ref 3, .ref 13] hp R := by
  have c := sn_c hs
  have S0 : rN hp s 0 = (V : Int) := hS.1
  have hT : sOk V T := hS.2.1
  refine xin (M := am_m90) rfl rfl (by unfold xAv; simp [amOk, sn_lt hs, Value.category]) ?_
  refine xald 1 ⟨u90, _, rfl⟩ rfl rfl ?_
  refine xald 2 ⟨u90, _, rfl⟩ rfl rfl ?_
  refine xgetC 5 hH ⟨u90, _, rfl⟩ rfl (sn_lt hs) (by decide) (sn_T hs) rfl (by decide) (fun z2 h2 => ?_)
  refine xcallC 8 (o := 3) [.int _] [] hH ⟨u90, _, rfl⟩ rfl rfl (by decide) rfl (by decide) rfl ⟨rfl, rfl, rfl, rfl⟩ rfl (k_rst (o := 3) (Or.inl rfl) hH (V := V) (by omega) hT.1 hT.2.1 (fun hp5 hH5 F5 B5 z5 => ⟨_, rfl, ?_⟩))
  refine xcst 9 (0) ⟨u90, _, rfl⟩ rfl (by decide) (fun z8 h8 => ?_)
  refine xist 10 ⟨u90, _, rfl⟩ rfl rfl ?_
  exact l90 hs ⟨(F5 s 2 (by simp; omega)).trans F2.1, (F5 s 3 (by simp; omega)).trans F2.2⟩ (snOk_fr hS (fun c c1 c2 k => F5 c k (by simp; omega))) (fun hp1 k1 k2 k3 k4 => hR hp1 k1 ((F5.mono (by simp)).trans k2) k3 k4) (trL T 225).length 0 0 _ hp5 (by omega) (by omega) rfl hH5 bFx.refl B5
end
/-! ##### 19.m.038.31e ##### -/
section
/-! ===== the class takes back, saves, restores ===== -/
theorem hyC_fr {hp hp1 : amH} {n : Nat} {h : Nat → sR} {sv : Option sR} (hY : hyC hp n h sv) (F : ∀ c k, 14 ≤ c → c ≤ 48 → bFld hp1 c k = bFld hp c k) : hyC hp1 n h sv := by
  obtain ⟨y1, y2, y3, ⟨f, hA, y4⟩, y5⟩ := hY
  refine ⟨(rN_eq (F 14 0 (by decide) (by decide))).trans y1, y2, fun s hs => ?_, ⟨f, ⟨fun k hk => ⟨(hA.1 k hk).1, (hA.1 k hk).2.1, (F 15 k (by decide) (by decide)).trans (hA.1 k hk).2.2⟩, hA.2⟩, fun k hk => ?_⟩, hyS_fr y5 (rN_eq (F 14 3 (by decide) (by decide))) (fun c c1 c2 k => F c k (by omega) (by omega))⟩
  · have := sn_mod hs
    exact ⟨(F s 2 (by omega) (by omega)).trans (y3 s hs).1, (F s 3 (by omega) (by omega)).trans (y3 s hs).2⟩
  · have := sn_mod (hA.1 k (by omega)).1
    exact snOk_fr (y4 k hk) (fun c c1 c2 j => F c j (by omega) (by omega))
/-- the depth set -/
theorem hyC_dep {hp hp1 : amH} {n m : Nat} {h : Nat → sR} {sv : Option sR} {z : Int} (hY : hyC hp n h sv) (U : rU hp hp1 14 0 z) (hz : z = (m : Int)) (hm : m ≤ n) : hyC hp1 m h sv := by
  obtain ⟨y1, y2, y3, ⟨f, hA, y4⟩, y5⟩ := hY
  refine ⟨U.1.trans hz, by omega, fun s hs => ?_, ⟨f, ⟨fun k hk => ⟨(hA.1 k hk).1, (hA.1 k hk).2.1, (U.2 15 k (by omega)).trans (hA.1 k hk).2.2⟩, hA.2⟩, fun k hk => ?_⟩, hyS_fr y5 (rU_ne U (by omega)) (fun c c1 c2 k => U.2 c k (by omega))⟩
  · have := sn_mod hs
    exact ⟨(U.2 s 2 (by omega)).trans (y3 s hs).1, (U.2 s 3 (by omega)).trans (y3 s hs).2⟩
  · have := sn_mod (hA.1 k (by omega)).1
    exact snOk_fr (y4 k (by omega)) (fun c c1 c2 j => U.2 c j (by omega))
theorem k_tkb {d n : Nat} {h : Nat → sR} {sv : Option sR} {hp : amH} {R : xQ} (hH : bHk 84 bTT hp) (hY : hyC hp n h sv)
    (hR : ∀ (z : Int32) hp1, bHk 84 bTT hp1 → bFx [3, 4, 6, 13, 14] hp hp1 → ((n = 0 ∧ z.toInt = 0 ∧ hp1 = hp) ∨ (0 < n ∧ z.toInt = 1 ∧ hyC hp1 (n - 1) h sv ∧ bdOk hp1 3 (h (n - 1)).1 (h (n - 1)).2.1 ∧ ∀ i, i < 3 → rN hp1 13 i = (h (n - 1)).2.2 i)) → R (.inl (some (.int z))) hp1) : xK (d + 4) 52 [.ref 14, .ref 3, .ref 13] hp R := by
  obtain ⟨y1, y2, y3, ⟨f, hA, y4⟩, y5⟩ := id hY
  refine xin (M := am_m52) rfl rfl rfl ?_
  refine xald 1 ⟨u52, _, rfl⟩ rfl rfl ?_
  refine xgetC 4 hH ⟨u52, _, rfl⟩ rfl (by decide) (by decide) rfl rfl (by decide) (fun z1 h1 => ?_)
  refine xcst 5 (1) ⟨u52, _, rfl⟩ rfl (by decide) (fun z4 h4 => ?_)
  refine xcmp_lt 8 ⟨u52, _, rfl⟩ rfl (fun c5 => ?_) (fun c5 => ?_)
  · refine xcst 35 (0) ⟨u52, _, rfl⟩ rfl (by decide) (fun z34 h34 => ?_)
    exact xretB ⟨u52, _, rfl⟩ rfl (by omega) (hR _ hp hH bFx.refl (Or.inl ⟨by omega, h34, rfl⟩))
  · refine xald 9 ⟨u52, _, rfl⟩ rfl rfl ?_
    refine xgetC 12 hH ⟨u52, _, rfl⟩ rfl (by decide) (by decide) rfl rfl (by decide) (fun z9 h9 => ?_)
    refine xald 13 ⟨u52, _, rfl⟩ rfl rfl ?_
    refine xgetD 16 (15) hH ⟨u52, _, rfl⟩ rfl (by decide) (by decide) rfl rfl (by decide) ?_
    refine xlen 17 hH ⟨u52, _, rfl⟩ rfl (by decide) rfl (by decide) (by decide) (fun z16 h16 => ?_)
    refine xcmp_gt 20 ⟨u52, _, rfl⟩ rfl (fun c17 => ?_) (fun c17 => ?_)
    · omega
    · obtain ⟨m1, m2, m3⟩ := hA.1 (n - 1) (by omega)
      have mm := sn_mod m1
      refine xald 21 ⟨u52, _, rfl⟩ rfl rfl ?_
      refine xgetD 24 (15) hH ⟨u52, _, rfl⟩ rfl (by decide) (by decide) rfl rfl (by decide) ?_
      refine xald 25 ⟨u52, _, rfl⟩ rfl rfl ?_
      refine xgetC 28 hH ⟨u52, _, rfl⟩ rfl (by decide) (by decide) rfl rfl (by decide) (fun z25 h25 => ?_)
      refine xcst 29 (1) ⟨u52, _, rfl⟩ rfl (by decide) (fun z28 h28 => ?_)
      refine xsub 30 _ ⟨u52, _, rfl⟩ rfl rfl (by omega) (by omega) (fun z29 h29 => ?_)
      refine xaald 31 (n - 1) (f (n - 1)) hH ⟨u52, _, rfl⟩ rfl (by decide) rfl (by omega) (by omega) (m3) ?_
      refine xnonnull ⟨u52, _, rfl⟩ ?_
      refine xald 37 ⟨u52, _, rfl⟩ rfl rfl ?_
      refine xdup 38 ⟨u52, _, rfl⟩ rfl rfl ?_
      refine xgetC 41 hH ⟨u52, _, rfl⟩ rfl (by decide) (by decide) rfl rfl (by decide) (fun z38 h38 => ?_)
      refine xcst 42 (1) ⟨u52, _, rfl⟩ rfl (by decide) (fun z41 h41 => ?_)
      refine xsub 43 _ ⟨u52, _, rfl⟩ rfl rfl (by omega) (by omega) (fun z42 h42 => ?_)
      refine xputC 46 hH ⟨u52, _, rfl⟩ rfl (by decide) (by decide) rfl rfl (by decide) ⟨rfl, rfl⟩ (by omega) (by omega) (fun hp43 hH43 U43 => ?_)
      have s43 := U43.1
      have Y43 : hyC hp43 (n - 1) h sv := hyC_dep hY U43 (by omega) (by omega)
      refine xald 47 ⟨u52, _, rfl⟩ rfl rfl ?_
      refine xgetD 50 (15) hH43 ⟨u52, _, rfl⟩ rfl (by decide) (by decide) rfl rfl (by decide) ?_
      refine xald 51 ⟨u52, _, rfl⟩ rfl rfl ?_
      refine xgetC 54 hH43 ⟨u52, _, rfl⟩ rfl (by decide) (by decide) rfl rfl (by decide) (fun z51 h51 => ?_)
      refine xaald 55 (n - 1) (f (n - 1)) hH43 ⟨u52, _, rfl⟩ rfl (by decide) rfl (by omega) (by omega) ((U43.2 15 (n - 1) (by omega)).trans m3) ?_
      refine xald 56 ⟨u52, _, rfl⟩ rfl rfl ?_
      refine xald 57 ⟨u52, _, rfl⟩ rfl rfl ?_
      refine xcallC 60 (o := f (n - 1)) [.ref 3, .ref 13] [] hH43 ⟨u52, _, rfl⟩ rfl rfl (sn_lt m1) (sn_T m1) (by decide) rfl ⟨rfl, rfl, rfl, rfl⟩ rfl (k_gvb m1 (Y43.2.2.1 _ m1) (snOk_fr (y4 (n - 1) (by omega)) (fun c c1 c2 k => U43.2 c k (by omega))) hH43 (fun hp57 hH57 F57 B57 E57 => ⟨_, rfl, ?_⟩))
      refine xcst 61 (1) ⟨u52, _, rfl⟩ rfl (by decide) (fun z60 h60 => ?_)
      exact xretB ⟨u52, _, rfl⟩ rfl (by omega) (hR _ hp57 hH57 ((bFx_U U43 (by simp)).trans (F57.mono (by simp))) (Or.inr ⟨by omega, by omega, hyC_fr Y43 (fun c k c1 c2 => F57 c k (by simp; omega)), B57, E57⟩))
theorem k_sav {d n V : Nat} {h : Nat → sR} {sv : Option sR} {T : sT} {hp : amH} {R : xQ} (hH : bHk 84 bTT hp) (hY : hyC hp n h sv) (hB : bdOk hp 3 V T) (hL : lsN hp 3 T 225)
    (hR : ∀ hp1, bHk 84 bTT hp1 → hyF hp hp1 → hyC hp1 n h (some (V, T, rN hp 13)) → R (.inl none) hp1) : xK (d + 2) 53 [.ref 14, .ref 3, .ref 13] hp R := by
  obtain ⟨y1, y2, y3, ⟨f, hA, y4⟩, y5⟩ := id hY
  have m1 : sn 16 := by unfold sn; simp
  refine xin (M := am_m53) rfl rfl rfl ?_
  refine xald 1 ⟨u53, _, rfl⟩ rfl rfl ?_
  refine xgetD 4 (16) hH ⟨u53, _, rfl⟩ rfl (by decide) (by decide) rfl rfl (by decide) ?_
  refine xald 5 ⟨u53, _, rfl⟩ rfl rfl ?_
  refine xald 6 ⟨u53, _, rfl⟩ rfl rfl ?_
  refine xcallC 9 (o := 16) [.ref 3, .ref 13] [] hH ⟨u53, _, rfl⟩ rfl rfl (by decide) rfl (by decide) rfl ⟨rfl, rfl, rfl, rfl⟩ rfl (k_keep m1 (y3 _ m1) hH hB hL (fun hp6 hH6 F6 f6 s6 => ⟨_, rfl, ?_⟩))
  refine xald 10 ⟨u53, _, rfl⟩ rfl rfl ?_
  refine xcst 11 (1) ⟨u53, _, rfl⟩ rfl (by decide) (fun z10 h10 => ?_)
  refine xputC 14 hH6 ⟨u53, _, rfl⟩ rfl (by decide) (by decide) rfl rfl (by decide) (by rw [show z10 = 1 from Int32.toInt_inj.mp h10]; exact ⟨rfl, rfl⟩) (by omega) (by omega) (fun hp11 hH11 U11 => ?_)
  have s11 := U11.1
  refine xretV ⟨u53, _, rfl⟩ rfl (hR _ hH11 ((hyF_x F6 (fun c hc => by simp at hc; omega)).trans (hyF_U U11 (by decide))) ⟨((rU_ne U11 (by omega)).trans (bFx_n F6 (by simp))).trans y1, y2, fun s hs => ?_, ⟨f, ⟨fun k hk => ⟨(hA.1 k hk).1, (hA.1 k hk).2.1, (U11.2 15 k (by omega)).trans ((F6 15 k (by simp)).trans (hA.1 k hk).2.2)⟩, hA.2⟩, fun k hk => ?_⟩, ?_⟩)
  · have := sn_mod hs
    by_cases e : s = 16
    · subst e
      exact ⟨(U11.2 16 2 (by omega)).trans f6.1, (U11.2 16 3 (by omega)).trans f6.2⟩
    · exact ⟨(U11.2 s 2 (by omega)).trans ((F6 s 2 (by simp; omega)).trans (y3 s hs).1), (U11.2 s 3 (by omega)).trans ((F6 s 3 (by simp; omega)).trans (y3 s hs).2)⟩
  · obtain ⟨k1, k2, -⟩ := hA.1 k (by omega)
    have := sn_mod k1
    exact snOk_fr (y4 k hk) (fun c c1 c2 j => (U11.2 c j (by omega)).trans (F6 c j (by simp; omega)))
  · exact ⟨U11.1.trans h10, snOk_fr s6 (fun c c1 c2 j => U11.2 c j (by omega))⟩
theorem k_rsr {d n : Nat} {h : Nat → sR} {sv : Option sR} {hp : amH} {R : xQ} (hH : bHk 84 bTT hp) (hY : hyC hp n h sv)
    (hR : ∀ (z : Int32) hp1, bHk 84 bTT hp1 → bFx [3, 4, 6, 13, 14] hp hp1 → ((sv = none ∧ z.toInt = 0 ∧ hp1 = hp) ∨ (∃ q, sv = some q ∧ z.toInt = 1 ∧ hyC hp1 0 h sv ∧ bdOk hp1 3 q.1 q.2.1 ∧ ∀ i, i < 3 → rN hp1 13 i = q.2.2 i)) → R (.inl (some (.int z))) hp1) : xK (d + 4) 54 [.ref 14, .ref 3, .ref 13] hp R := by
  obtain ⟨y1, y2, y3, ⟨f, hA, y4⟩, y5⟩ := id hY
  have m1 : sn 16 := by unfold sn; simp
  refine xin (M := am_m54) rfl rfl rfl ?_
  refine xald 1 ⟨u54, _, rfl⟩ rfl rfl ?_
  refine xgetC 4 hH ⟨u54, _, rfl⟩ rfl (by decide) (by decide) rfl rfl (by decide) (fun z1 h1 => ?_)
  refine xif_ne 7 ⟨u54, _, rfl⟩ rfl (fun c4 => ?_) (fun c4 => ?_)
  · obtain ⟨q, rfl⟩ : ∃ q, sv = some q := by
      cases sv with
      | none => have y5 : rN hp 14 3 = 0 := y5; omega
      | some q => exact ⟨q, rfl⟩
    have k6 : snOk hp 16 (q.1, q.2.1, q.2.2) := y5.2
    refine xald 10 ⟨u54, _, rfl⟩ rfl rfl ?_
    refine xgetD 13 (16) hH ⟨u54, _, rfl⟩ rfl (by decide) (by decide) rfl rfl (by decide) ?_
    refine xald 14 ⟨u54, _, rfl⟩ rfl rfl ?_
    refine xald 15 ⟨u54, _, rfl⟩ rfl rfl ?_
    refine xcallC 18 (o := 16) [.ref 3, .ref 13] [] hH ⟨u54, _, rfl⟩ rfl rfl (by decide) rfl (by decide) rfl ⟨rfl, rfl, rfl, rfl⟩ rfl (k_gvb m1 (y3 16 m1) k6 hH (fun hp15 hH15 F15 B15 E15 => ⟨_, rfl, ?_⟩))
    have Y15 : hyC hp15 n h (some q) := hyC_fr hY (fun c k c1 c2 => F15 c k (by simp; omega))
    refine xald 19 ⟨u54, _, rfl⟩ rfl rfl ?_
    refine xcst 20 (0) ⟨u54, _, rfl⟩ rfl (by decide) (fun z19 h19 => ?_)
    refine xputC 23 hH15 ⟨u54, _, rfl⟩ rfl (by decide) (by decide) rfl rfl (by decide) ⟨rfl, rfl⟩ (by omega) (by omega) (fun hp20 hH20 U20 => ?_)
    have s20 := U20.1
    refine xcst 24 (1) ⟨u54, _, rfl⟩ rfl (by decide) (fun z23 h23 => ?_)
    exact xretB ⟨u54, _, rfl⟩ rfl (by omega) (hR _ hp20 hH20 ((F15.mono (by simp)).trans (bFx_U U20 (by simp))) (Or.inr ⟨q, rfl, h23, hyC_dep Y15 U20 (by omega) (Nat.zero_le _), bdOk_fr B15 (rU_ne U20 (by omega)) (fun i => rU_ne U20 (by omega)) (fun i => rU_ne U20 (by omega)), fun i hi => by rw [rU_ne U20 (by omega)]; exact E15 i hi⟩))
  · refine xcst 8 (0) ⟨u54, _, rfl⟩ rfl (by decide) (fun z7 h7 => ?_)
    exact xretB ⟨u54, _, rfl⟩ rfl (by omega) (hR _ hp hH bFx.refl (Or.inl ⟨by cases sv with | none => rfl | some q => exact absurd y5.1 (by omega), h7, rfl⟩))
end
/-! ##### 19.m.039.31f ##### -/
section
/-! ===== the reference keeps what was ===== -/
theorem rowOk_eq {r r1 : Nat → Int} {q : sR} (h : rowOk r q) (e : ∀ i, i < 229 → r1 i = r i) : rowOk r1 q := by
  obtain ⟨h1, h2, h3, h4, h5⟩ := h
  exact ⟨(e 0 (by decide)).trans h1, h2, fun u v hu hv => (e _ (by omega)).trans (h3 u v hu hv), h4, fun i hi => (e _ (by omega)).trans (h5 i hi)⟩
def hyV (hp : amH) (sv : Option sR) : Prop := match sv with
  | none => rN hp 66 6 = 0
  | some q => rN hp 66 6 = 1 ∧ rowOk (rN hp 70) q
def hyR (hp : amH) (n : Nat) (h : Nat → sR) (sv : Option sR) : Prop := rN hp 66 5 = (n : Int) ∧ n ≤ 10 ∧ (∀ k, k < n → rowOk (fun i => rN hp 71 (229 * k + i)) (h k)) ∧ hyV hp sv
theorem hyV_fr {hp hp1 : amH} {sv : Option sR} (h : hyV hp sv) (e : rN hp1 66 6 = rN hp 66 6) (F : ∀ i, i < 229 → rN hp1 70 i = rN hp 70 i) : hyV hp1 sv := by
  cases sv with
  | none => exact e.trans h
  | some q => exact ⟨e.trans h.1, rowOk_eq h.2 F⟩
theorem hyR_fr {hp hp1 : amH} {n : Nat} {h : Nat → sR} {sv : Option sR} (hY : hyR hp n h sv) (e5 : rN hp1 66 5 = rN hp 66 5) (e6 : rN hp1 66 6 = rN hp 66 6) (F : ∀ i, rN hp1 70 i = rN hp 70 i) (F1 : ∀ i, rN hp1 71 i = rN hp 71 i) : hyR hp1 n h sv :=
  ⟨e5.trans hY.1, hY.2.1, fun k hk => rowOk_eq (hY.2.2.1 k hk) (fun i _ => F1 _), hyV_fr hY.2.2.2 e6 (fun i _ => F i)⟩
theorem rowOk_V {r : Nat → Int} {q : sR} (h : rowOk r q) : Vf r := by
  obtain ⟨h1, h2, h3, h4, h5⟩ := h
  have a := h2.1
  have b := h2.2.1
  refine ⟨by omega, by omega, fun u v hu hv => ?_⟩
  rcases h2.2.2 u v with g | ⟨c, g1, g2, g3, g4, g5, g6, g7, g8, g9⟩
  · exact Or.inl ((h3 u v hu hv).trans g)
  · exact Or.inr ⟨c, (h3 u v hu hv).trans g1, by omega, by omega, by omega, g5, g6, g7, (h3 v u hv hu).trans g8, (h3 u c hu (by omega)).trans g9⟩
theorem rowOk_rd {hp : amH} {q : sR} (h : rowOk (rN hp 67) q) : rdOk hp q.1 q.2.1 := ⟨h.1, h.2.1, h.2.2.1, h.2.2.2.1⟩
theorem rd_rowOk {hp : amH} {V : Nat} {T : sT} {ty : Nat → Int} (h : rdOk hp V T) (e : ∀ i, i < 3 → rN hp 67 (i + 1) = ty i) : rowOk (rN hp 67) (V, T, ty) := ⟨h.1, h.2.1, h.2.2.1, h.2.2.2, e⟩
theorem k_rmem {d n : Nat} {h : Nat → sR} {sv : Option sR} {q : sR} {hp : amH} {R : xQ} (hH : bHk 84 bTT hp) (hP : P0 hp) (hC : rowOk (rN hp 67) q) (hY : hyR hp n h sv) (hR : ∀ hp1, bHk 84 bTT hp1 → P0 hp1 → bFr wRem hp hp1 → hyR hp1 (pM n + 1) (pH n h q) sv → R (.inl none) hp1) : xK (d + 1) 200 [.ref 66] hp R := by
  refine xin (M := am_m200) rfl rfl rfl ?_
  have j37 : ∀ hp1, bHk 84 bTT hp1 → P0 hp1 → bFr wRem hp hp1 → rN hp1 66 5 = ((pM n : Nat) : Int) → (∀ k, k < pM n → rowOk (fun i => rN hp1 71 (229 * k + i)) (if n = 10 then h (k + 1) else h k)) → xV (d + 1) am_m200 37 [some (.ref 66)] [] hp1 R := by
    intro hp1 hH1 hP1 hF1 h9 hK
    have pm : pM n ≤ 9 := by unfold pM; have := hY.2.1; split <;> omega
    have hb := rb_fld hH1 (f := 5) (lo := 2147483648) (hi := 2147483658) rfl
    obtain ⟨m, hm⟩ : ∃ m : Nat, rN hp1 66 5 = (m : Int) := ⟨(rN hp1 66 5).toNat, by omega⟩
    refine xald 38 ⟨u200, _, rfl⟩ rfl rfl ?_
    refine xgetR 41 67 hH1 ⟨u200, _, rfl⟩ rfl rfl ?_
    refine xcst 42 (0) ⟨u200, _, rfl⟩ rfl (by decide) (fun z41 h41 => ?_)
    refine xald 43 ⟨u200, _, rfl⟩ rfl rfl ?_
    refine xgetR 46 71 hH1 ⟨u200, _, rfl⟩ rfl rfl ?_
    refine xsip 49 (229) ⟨u200, _, rfl⟩ rfl (by decide) (fun z46 h46 => ?_)
    refine xald 50 ⟨u200, _, rfl⟩ rfl rfl ?_
    refine xgetI 53 hH1 ⟨u200, _, rfl⟩ rfl rfl (fun z50 h50 => ?_)
    refine xmul 54 (229 * Int32.toInt z50) ⟨u200, _, rfl⟩ rfl (by rw [h46]) (by omega) (by omega) (fun z53 h53 => ?_)
    refine xsip 57 (229) ⟨u200, _, rfl⟩ rfl (by decide) (fun z54 h54 => ?_)
    refine xcallS 60 [.ref 67, .int _, .ref 71, .int _, .int _] [] hH1 ⟨u200, _, rfl⟩ rfl rfl rfl rfl rfl (k_copy 0 (229 * m) 229 hH1 (by decide) (by decide) (by decide) rfl rfl (by omega) (by omega) (by omega) (by omega) (by omega) (by decide) (fun hp2 hH2 F2 E2 => ⟨_, rfl, ?_⟩))
    refine xald 61 ⟨u200, _, rfl⟩ rfl rfl ?_
    refine xdup 62 ⟨u200, _, rfl⟩ rfl rfl ?_
    have e5 : rN hp2 66 5 = rN hp1 66 5 := r_fr F2 (bIn_ne (by decide))
    refine xgetI 65 hH2 ⟨u200, _, rfl⟩ rfl rfl (fun z62 h62 => ?_)
    refine xcst 66 (1) ⟨u200, _, rfl⟩ rfl (by decide) (fun z65 h65 => ?_)
    refine xadd 67 (m + 1) ⟨u200, _, rfl⟩ rfl (by omega) (by omega) (by omega) (fun z66 h66 => ?_)
    refine xputI 70 hH2 ⟨u200, _, rfl⟩ rfl rfl ⟨rfl, rfl⟩ (by omega) (by omega) (fun hp3 hH3 U3 => ?_)
    have e : ∀ c i, ¬ c = 71 → ¬ (c = 66 ∧ i = 5) → rN hp3 c i = rN hp1 c i := fun c i h1 h2 => (rU_ne U3 h2).trans (r_fr F2 (bIn_ne h1))
    refine xretV ⟨u200, _, rfl⟩ rfl (hR hp3 hH3 ?_ (hF1.trans ((bFr_in F2 (by simp [wRem])).trans (rU_fr U3 rfl))) ?_)
    · refine ⟨Vf_eq (fun i _ => e 67 i (by decide) (by omega)) hP1.1, fun z => Vf_eq (fun i _ => e 70 i (by decide) (by omega)) (hP1.2.1 (by rw [← e 66 6 (by decide) (by omega)]; exact z)), fun k hk hk2 => ?_, fun z => Vf_eq (fun i _ => e 69 i (by decide) (by omega)) (hP1.2.2.2 (by rw [← e 69 0 (by decide) (by omega)]; exact z))⟩
      rw [U3.1] at hk
      by_cases hkm : k = m
      · subst hkm
        refine Vf_eq (r := rN hp1 67) (fun i hi => ?_) hP1.1
        rw [rU_ne U3 (by omega), E2 _ (by omega), if_pos (by omega), show 0 + (229 * k + i - 229 * k) = i by omega]
      · refine Vf_eq (r := fun i => rN hp1 71 (229 * k + i)) (fun i hi => ?_) (hP1.2.2.1 k (by omega) hk2)
        rw [rU_ne U3 (by omega), E2 _ (by omega), if_neg (by omega)]
    · have em : m = pM n := by omega
      refine ⟨by rw [U3.1]; omega, by omega, fun k hk => ?_, hyV_fr hY.2.2.2 ((e 66 6 (by decide) (by omega)).trans (r_fr hF1 rfl)) (fun i _ => (e 70 i (by decide) (by omega)).trans (r_fr hF1 rfl))⟩
      unfold pH
      by_cases hkm : k = pM n
      · rw [if_pos hkm]
        refine rowOk_eq (r := rN hp 67) hC (fun i hi => ?_)
        rw [rU_ne U3 (by omega), E2 _ (by omega), if_pos (by omega), show 0 + (229 * k + i - 229 * m) = i by omega]
        exact r_fr hF1 rfl
      · rw [if_neg hkm]
        refine rowOk_eq (hK k (by omega)) (fun i hi => ?_)
        rw [rU_ne U3 (by omega), E2 _ (by omega), if_neg (by omega)]
  refine xald 1 ⟨u200, _, rfl⟩ rfl rfl ?_
  refine xgetI 4 hH ⟨u200, _, rfl⟩ rfl rfl (fun z1 h1 => ?_)
  have hb := rb_fld hH (f := 5) (lo := 2147483648) (hi := 2147483658) rfl
  refine xbip 6 (10) ⟨u200, _, rfl⟩ rfl (by decide) (fun z4 h4 => ?_)
  refine xcmp_ne 9 ⟨u200, _, rfl⟩ rfl (fun c6 => ?_) (fun c6 => ?_)
  · have en : ¬ n = 10 := by have := hY.1; omega
    have pm : pM n = n := by unfold pM; rw [if_neg en]
    exact j37 hp hH hP (bFr.refl _ _) (by rw [pm]; exact hY.1) (fun k hk => by rw [if_neg en]; exact hY.2.2.1 k (by omega))
  · refine xald 10 ⟨u200, _, rfl⟩ rfl rfl ?_
    refine xgetR 13 71 hH ⟨u200, _, rfl⟩ rfl rfl ?_
    refine xsip 16 (229) ⟨u200, _, rfl⟩ rfl (by decide) (fun z13 h13 => ?_)
    refine xald 17 ⟨u200, _, rfl⟩ rfl rfl ?_
    refine xgetR 20 71 hH ⟨u200, _, rfl⟩ rfl rfl ?_
    refine xcst 21 (0) ⟨u200, _, rfl⟩ rfl (by decide) (fun z20 h20 => ?_)
    refine xsip 24 (2061) ⟨u200, _, rfl⟩ rfl (by decide) (fun z21 h21 => ?_)
    refine xcallS 27 [.ref 71, .int _, .ref 71, .int _, .int _] [] hH ⟨u200, _, rfl⟩ rfl rfl rfl rfl rfl (k_shift hH h13 h20 h21 (fun hp2 hH2 F2 E2 => ⟨_, rfl, ?_⟩))
    refine xald 28 ⟨u200, _, rfl⟩ rfl rfl ?_
    refine xdup 29 ⟨u200, _, rfl⟩ rfl rfl ?_
    have e5 : rN hp2 66 5 = rN hp 66 5 := r_fr F2 (bIn_ne (by decide))
    refine xgetI 32 hH2 ⟨u200, _, rfl⟩ rfl rfl (fun z29 h29 => ?_)
    refine xcst 33 (1) ⟨u200, _, rfl⟩ rfl (by decide) (fun z32 h32 => ?_)
    refine xsub 34 9 ⟨u200, _, rfl⟩ rfl (by omega) (by omega) (by omega) (fun z33 h33 => ?_)
    refine xputI 37 hH2 ⟨u200, _, rfl⟩ rfl rfl ⟨rfl, rfl⟩ (by omega) (by omega) (fun hp3 hH3 U3 => ?_)
    have e : ∀ c i, ¬ c = 71 → ¬ (c = 66 ∧ i = 5) → rN hp3 c i = rN hp c i := fun c i h1 h2 => (rU_ne U3 h2).trans (r_fr F2 (bIn_ne h1))
    have en : n = 10 := by have := hY.1; omega
    have pm : pM n = 9 := by unfold pM; rw [if_pos en]
    refine j37 hp3 hH3 ?_ ((bFr_in F2 (by simp [wRem])).trans (rU_fr U3 rfl)) (by rw [U3.1, pm]; exact h33) (fun k hk => by
      rw [if_pos en]
      refine rowOk_eq (hY.2.2.1 (k + 1) (by omega)) (fun i hi => ?_)
      rw [rU_ne U3 (by omega), E2 _ (by omega), show 229 + (229 * k + i) = 229 * (k + 1) + i by omega])
    refine ⟨Vf_eq (fun i _ => e 67 i (by decide) (by omega)) hP.1, fun z => Vf_eq (fun i _ => e 70 i (by decide) (by omega)) (hP.2.1 (by rw [← e 66 6 (by decide) (by omega)]; exact z)), fun k hk hk2 => ?_, fun z => Vf_eq (fun i _ => e 69 i (by decide) (by omega)) (hP.2.2.2 (by rw [← e 69 0 (by decide) (by omega)]; exact z))⟩
    rw [U3.1, h33] at hk
    refine Vf_eq (r := fun i => rN hp 71 (229 * (k + 1) + i)) (fun i hi => ?_) (hP.2.2.1 (k + 1) (by omega) (by omega))
    rw [rU_ne U3 (by omega), E2 _ (by omega), show 229 + (229 * k + i) = 229 * (k + 1) + i by omega]
theorem P0_dep {hp hp1 : amH} {n : Nat} {m : Int} (U : rU hp hp1 66 5 m) (hn : rN hp 66 5 = (n : Int)) (hm : m ≤ (n : Int)) (hP : P0 hp) : P0 hp1 :=
  ⟨Vf_eq (fun i _ => rU_ne U (by omega)) hP.1, fun z => Vf_eq (fun i _ => rU_ne U (by omega)) (hP.2.1 (by rw [← rU_ne U (c1 := 66) (i1 := 6) (by omega)]; exact z)), fun k hk hk2 => Vf_eq (fun i _ => rU_ne U (by omega)) (hP.2.2.1 k (by rw [U.1] at hk; omega) hk2), fun z => Vf_eq (fun i _ => rU_ne U (by omega)) (hP.2.2.2 (by rw [← rU_ne U (c1 := 69) (i1 := 0) (by omega)]; exact z))⟩
theorem k_339 {d n : Nat} {h : Nat → sR} {sv : Option sR} {hp : amH} {R : xQ} (hH : bHk 84 bTT hp) (hP : P0 hp) (hY : hyR hp n h sv)
    (hR : ∀ (z : Int32) hp1, bHk 84 bTT hp1 → P0 hp1 → bFr wM hp hp1 → ((n = 0 ∧ z.toInt = -1 ∧ bFr [(66, 7)] hp hp1) ∨ (0 < n ∧ z.toInt = ((n - 1 : Nat) : Int) ∧ hyR hp1 (n - 1) h sv ∧ rowOk (rN hp1 67) (h (n - 1)))) → R (.inl (some (.int z))) hp1) : xK (d + 1) 339 [.ref 66] hp R := by
  obtain ⟨y1, y2, y3, y4⟩ := id hY
  have b5 := rb_fld hH (f := 5) (lo := 2147483648) (hi := 2147483658) rfl
  refine xin (M := am_m339) rfl rfl rfl ?_
  refine xald 1 ⟨u339, _, rfl⟩ rfl rfl ?_
  refine xcst 2 (0) ⟨u339, _, rfl⟩ rfl (by decide) (fun z1 h1 => ?_)
  refine xputI 5 hH ⟨u339, _, rfl⟩ rfl rfl ⟨rfl, rfl⟩ (by omega) (by omega) (fun hp2 hH2 U2 => ?_)
  have s2 := U2.1
  have n2_66_5 : rN hp2 (66) 5 = rN hp (66) 5 := rU_ne U2 (by omega)
  refine xald 6 ⟨u339, _, rfl⟩ rfl rfl ?_
  refine xgetI 9 hH2 ⟨u339, _, rfl⟩ rfl rfl (fun z6 h6 => ?_)
  refine xif_ne 12 ⟨u339, _, rfl⟩ rfl (fun c9 => ?_) (fun c9 => ?_)
  · refine xald 15 ⟨u339, _, rfl⟩ rfl rfl ?_
    refine xdup 16 ⟨u339, _, rfl⟩ rfl rfl ?_
    refine xgetI 19 hH2 ⟨u339, _, rfl⟩ rfl rfl (fun z16 h16 => ?_)
    refine xcst 20 (1) ⟨u339, _, rfl⟩ rfl (by decide) (fun z19 h19 => ?_)
    refine xsub 21 _ ⟨u339, _, rfl⟩ rfl rfl (by omega) (by omega) (fun z20 h20 => ?_)
    refine xputI 24 hH2 ⟨u339, _, rfl⟩ rfl rfl ⟨rfl, rfl⟩ (by omega) (by omega) (fun hp21 hH21 U21 => ?_)
    have s21 := U21.1
    refine xald 25 ⟨u339, _, rfl⟩ rfl rfl ?_
    refine xgetR 28 71 hH21 ⟨u339, _, rfl⟩ rfl rfl ?_
    refine xsip 31 (229) ⟨u339, _, rfl⟩ rfl (by decide) (fun z28 h28 => ?_)
    refine xald 32 ⟨u339, _, rfl⟩ rfl rfl ?_
    refine xgetI 35 hH21 ⟨u339, _, rfl⟩ rfl rfl (fun z32 h32 => ?_)
    refine xmul 36 (229 * Int32.toInt z32) ⟨u339, _, rfl⟩ rfl (by rw [h28]) (by omega) (by omega) (fun z35 h35 => ?_)
    refine xald 37 ⟨u339, _, rfl⟩ rfl rfl ?_
    refine xgetR 40 67 hH21 ⟨u339, _, rfl⟩ rfl rfl ?_
    refine xcst 41 (0) ⟨u339, _, rfl⟩ rfl (by decide) (fun z40 h40 => ?_)
    refine xsip 44 (229) ⟨u339, _, rfl⟩ rfl (by decide) (fun z41 h41 => ?_)
    refine xcallS 47 [.ref 71, .int _, .ref 67, .int _, .int _] [] hH21 ⟨u339, _, rfl⟩ rfl rfl rfl rfl rfl (k_copy (229 * (n - 1)) 0 229 hH21 (by decide) (by decide) (by decide) rfl rfl (by omega) (by omega) (by omega) (by omega) (by omega) (by decide) (fun hp44 hH44 F44 E44 => ⟨_, rfl, ?_⟩))
    have r67 : rowOk (rN hp44 67) (h (n - 1)) := rowOk_eq (y3 (n - 1) (by omega)) (fun i hi => by
      rw [E44 i hi, if_pos (by omega), Nat.sub_zero, rU_ne U21 (by omega), rU_ne U2 (by omega)])
    have e5 : rN hp44 66 5 = rN hp21 66 5 := r_fr F44 rfl
    have b21 : bFr [(66, 5), (66, 7)] hp hp21 := (rU_fr U2 (by decide)).trans (rU_fr U21 (by decide))
    have hP44 : P0 hp44 := P0_67 F44 (P0_dep (n := n) U21 (by omega) (by omega) (P0_W (W := [(66, 7)]) (by decide) (rU_fr U2 rfl) hP)) (rowOk_V r67)
    refine xald 48 ⟨u339, _, rfl⟩ rfl rfl ?_
    refine xgetI 51 hH44 ⟨u339, _, rfl⟩ rfl rfl (fun z48 h48 => ?_)
    exact xret ⟨u339, _, rfl⟩ rfl (hR _ hp44 hH44 hP44 ((bFr_sub b21 (by decide)).trans (bFr_sub F44 (by decide))) (Or.inr ⟨by omega, by omega, ⟨by rw [e5, U21.1]; omega, by omega, fun k hk => rowOk_eq (y3 k (by omega)) (fun i hi => by
      rw [show rN hp44 71 (229 * k + i) = rN hp21 71 (229 * k + i) from r_fr F44 rfl]
      exact r_fr b21 rfl), hyV_fr y4 ((r_fr F44 rfl).trans (r_fr b21 rfl)) (fun i _ => (r_fr F44 rfl).trans (r_fr b21 rfl))⟩, r67⟩))
  · refine xcst 13 (-1) ⟨u339, _, rfl⟩ rfl (by decide) (fun z12 h12 => ?_)
    exact xret ⟨u339, _, rfl⟩ rfl (hR _ hp2 hH2 (P0_W (W := [(66, 7)]) (by decide) (rU_fr U2 rfl) hP) (rU_fr U2 (by decide)) (Or.inl ⟨by omega, h12, rU_fr U2 rfl⟩))
end
/-! ##### 19.m.040.31g ##### -/
section
/-! ===== the reference: triples put and taken, states saved and restored ===== -/
theorem k_ptR {d V x y z : Nat} {hp : amH} {R : xQ} {T : sT} {ty : Nat → Int} {a b c : Int32} (hH : bHk 84 bTT hp) (hP : P0 hp) (hC : rowOk (rN hp 67) (V, T, ty)) (ha : a.toInt = (x : Int)) (hb : b.toInt = (y : Int)) (hc : c.toInt = (z : Int)) (hx : x < V) (hy : y < V) (hz : z < V) (hxy : ¬ x = y) (hyz : ¬ y = z) (hxz : ¬ x = z) (hf : sFree T x y z)
    (hR : ∀ hp1, bHk 84 bTT hp1 → P0 hp1 → bFr [(67, 999)] hp hp1 → rowOk (rN hp1 67) (V, sPut T x y z, ty) → R (.inl none) hp1) : xK (d + 1) 206 [.ref 66, .int a, .int b, .int c] hp R :=
  k_rput hH hP (rowOk_rd hC) ha hb hc hx hy hz hxy hyz hxz hf (fun hp1 g1 g2 g3 g4 g5 => hR hp1 g1 g2 g3 (rd_rowOk g5 (fun i hi => (g4 (i + 1) (by omega)).trans (hC.2.2.2.2 i hi))))
theorem k_tkR {d V x y z : Nat} {hp : amH} {R : xQ} {T : sT} {ty : Nat → Int} {a b c : Int32} (hH : bHk 84 bTT hp) (hP : P0 hp) (hC : rowOk (rN hp 67) (V, T, ty)) (ha : a.toInt = (x : Int)) (hb : b.toInt = (y : Int)) (hc : c.toInt = (z : Int)) (e : T x y = (z : Int))
    (hR : ∀ hp1, bHk 84 bTT hp1 → P0 hp1 → bFr [(67, 999)] hp hp1 → rowOk (rN hp1 67) (V, sTake T x y z, ty) → R (.inl none) hp1) : xK (d + 1) 207 [.ref 66, .int a, .int b, .int c] hp R := by
  obtain ⟨c1, c2, c3, c4, c5⟩ := id hC
  have hV := c2.2.1
  obtain ⟨k, ek, k1, k2, k3, k4, k5, k6, -⟩ := sOk_at c2 e (by omega)
  have : k = z := by omega
  subst this
  have k1 : x < V := k1
  have k2 : y < V := k2
  have k3 : k < V := k3
  have hV : V ≤ 15 := hV
  refine k_takes hH ha hb hc (by omega) (by omega) (by omega) k4 k6 k5 (fun hp1 g1 g2 g3 g4 => ?_)
  have hC1 : rowOk (rN hp1 67) (V, sTake T x y k, ty) := ⟨(g3 0 (by omega)).trans c1, sOk_take c2 e, fun u v hu hv => by
    have g := g4 u v hu hv
    have g0 : tT hp1 u v = sTake T x y k u v := by
      rw [g]
      unfold sTake
      by_cases hp : sPr x y k u v
      · rw [if_pos hp, if_pos hp]
      · rw [if_neg hp, if_neg hp]
        exact c3 u v hu hv
    exact g0, fun u v h => by
    show sTake T x y k u v = -1
    unfold sTake
    split
    · rfl
    · exact c4 u v h, fun i hi => (g3 (i + 1) (by omega)).trans (c5 i hi)⟩
  exact hR hp1 g1 (P0_67 g2 hP (rowOk_V hC1)) g2 hC1
theorem k_failsE {d : Nat} {hp : amH} {R : xQ} {v e : Int32} (hH : bHk 84 bTT hp) (hv : v.toInt = 0 ∨ v.toInt = 1) (hR : ∀ hp1, bHk 84 bTT hp1 → ((v.toInt = 0 ∧ hp1 = hp) ∨ (v.toInt = 1 ∧ rU hp hp1 66 7 e.toInt)) → R (.inl (some (.int v))) hp1) : xK d 197 [.ref 66, .int v, .int e] hp R := by
  have em := aMin e
  have ex := aMax e
  refine xin (M := am_m197) rfl rfl rfl ?_
  refine xild 1 ⟨u197, _, rfl⟩ rfl rfl ?_
  refine xif_eq 4 ⟨u197, _, rfl⟩ rfl (fun c1 => ?_) (fun c1 => ?_)
  · refine xild 10 ⟨u197, _, rfl⟩ rfl rfl ?_
    exact xretB ⟨u197, _, rfl⟩ rfl (by omega) (hR _ hH (Or.inl ⟨by omega, rfl⟩))
  · refine xald 5 ⟨u197, _, rfl⟩ rfl rfl ?_
    refine xild 6 ⟨u197, _, rfl⟩ rfl rfl ?_
    refine xputI 9 hH ⟨u197, _, rfl⟩ rfl rfl ⟨rfl, rfl⟩ (by omega) (by omega) (fun hp6 hH6 U6 => ?_)
    have s6 := U6.1
    refine xild 10 ⟨u197, _, rfl⟩ rfl rfl ?_
    exact xretB ⟨u197, _, rfl⟩ rfl (by omega) (hR _ hH6 (Or.inr ⟨by omega, U6⟩))
theorem k_340E {d n : Nat} {h : Nat → sR} {sv : Option sR} {q : sR} {hp : amH} {R : xQ} (hH : bHk 84 bTT hp) (hP : P0 hp) (hC : rowOk (rN hp 67) q) (hY : hyR hp n h sv)
    (hR : ∀ (z : Int32) hp1, bHk 84 bTT hp1 → P0 hp1 → bFr wM hp hp1 → rowOk (rN hp1 67) q → hyR hp1 n h (some q) → z.toInt = (((trL q.2.1 225).length : Nat) : Int) → R (.inl (some (.int z))) hp1) : xK (d + 3) 340 [.ref 66] hp R := by
  obtain ⟨y1, y2, y3, y4⟩ := id hY
  refine xin (M := am_m340) rfl rfl rfl ?_
  refine xald 1 ⟨u340, _, rfl⟩ rfl rfl ?_
  refine xcst 2 (0) ⟨u340, _, rfl⟩ rfl (by decide) (fun z1 h1 => ?_)
  refine xputI 5 hH ⟨u340, _, rfl⟩ rfl rfl ⟨rfl, rfl⟩ (by omega) (by omega) (fun hp2 hH2 U2 => ?_)
  have s2 := U2.1
  refine xald 6 ⟨u340, _, rfl⟩ rfl rfl ?_
  refine xgetR 9 67 hH2 ⟨u340, _, rfl⟩ rfl rfl ?_
  refine xcst 10 (0) ⟨u340, _, rfl⟩ rfl (by decide) (fun z9 h9 => ?_)
  refine xald 11 ⟨u340, _, rfl⟩ rfl rfl ?_
  refine xgetR 14 70 hH2 ⟨u340, _, rfl⟩ rfl rfl ?_
  refine xcst 15 (0) ⟨u340, _, rfl⟩ rfl (by decide) (fun z14 h14 => ?_)
  refine xsip 18 (229) ⟨u340, _, rfl⟩ rfl (by decide) (fun z15 h15 => ?_)
  refine xcallS 21 [.ref 67, .int _, .ref 70, .int _, .int _] [] hH2 ⟨u340, _, rfl⟩ rfl rfl rfl rfl rfl (k_copy 0 0 229 hH2 (by decide) (by decide) (by decide) rfl rfl (by omega) (by omega) (by omega) (by omega) (by omega) (by decide) (fun hp18 hH18 F18 E18 => ⟨_, rfl, ?_⟩))
  have r70 : rowOk (rN hp18 70) q := rowOk_eq hC (fun i hi => by
    rw [E18 i hi, if_pos (by omega), Nat.sub_zero, Nat.zero_add, rU_ne U2 (by omega)])
  have C18 : rowOk (rN hp18 67) q := rowOk_eq hC (fun i hi => (r_fr F18 rfl).trans (rU_ne U2 (by omega)))
  have P18 : P0 hp18 := P0_no (P0_W (W := [(66, 7)]) (by decide) (rU_fr U2 rfl) hP) F18 (fun z => absurd z (by decide)) (fun z => absurd z (by decide)) (fun _ => rowOk_V r70) (by decide) (by decide)
  refine xald 22 ⟨u340, _, rfl⟩ rfl rfl ?_
  refine xcst 23 (1) ⟨u340, _, rfl⟩ rfl (by decide) (fun z22 h22 => ?_)
  refine xputI 26 hH18 ⟨u340, _, rfl⟩ rfl rfl (by rw [show z22 = 1 from Int32.toInt_inj.mp h22]; exact ⟨rfl, rfl⟩) (by omega) (by omega) (fun hp23 hH23 U23 => ?_)
  have s23 := U23.1
  have C23 : rowOk (rN hp23 67) q := rowOk_eq C18 (fun i hi => rU_ne U23 (by omega))
  have r70b : rowOk (rN hp23 70) q := rowOk_eq r70 (fun i hi => rU_ne U23 (by omega))
  have P23 : P0 hp23 := ⟨rowOk_V C23, fun _ => rowOk_V r70b, fun k hk hk2 => Vf_eq (fun i _ => rU_ne U23 (by omega)) (P18.2.2.1 k (by rw [← rU_ne U23 (c1 := 66) (i1 := 5) (by omega)]; exact hk) hk2), fun z => Vf_eq (fun i _ => rU_ne U23 (by omega)) (P18.2.2.2 (by rw [← rU_ne U23 (c1 := 69) (i1 := 0) (by omega)]; exact z))⟩
  have Y23 : hyR hp23 n h (some q) := ⟨((rU_ne U23 (by omega)).trans ((r_fr F18 rfl).trans (rU_ne U2 (by omega)))).trans y1, y2, fun k hk => rowOk_eq (y3 k hk) (fun i _ => (rU_ne U23 (by omega)).trans ((r_fr F18 rfl).trans (rU_ne U2 (by omega)))), U23.1.trans h22, r70b⟩
  refine xald 27 ⟨u340, _, rfl⟩ rfl rfl ?_
  refine xcall 30 [.ref 66] [] hH23 ⟨u340, _, rfl⟩ rfl rfl rfl rfl rfl (k_rtm hH23 (V := q.1) (T := q.2.1) (rowOk_rd C23) (fun z27 hp27 hH27 F27 B27 L27 e27 => ⟨_, rfl, ?_⟩))
  have hP27 : P0 hp27 := P0_W (W := bLT) (by decide) F27 P23
  exact xret ⟨u340, _, rfl⟩ rfl (hR _ hp27 hH27 hP27 ((((rU_fr U2 (by decide)).trans (bFr_sub F18 (by decide))).trans (rU_fr U23 (by decide))).trans (bFr_sub F27 (by decide))) (rowOk_eq C23 (fun i _ => r_fr F27 rfl)) (hyR_fr Y23 (r_fr F27 rfl) (r_fr F27 rfl) (fun i => r_fr F27 rfl) (fun i => r_fr F27 rfl)) e27)
theorem k_341E {d n : Nat} {h : Nat → sR} {sv : Option sR} {q0 : sR} {hp : amH} {R : xQ} (hH : bHk 84 bTT hp) (hP : P0 hp) (hC : rowOk (rN hp 67) q0) (hY : hyR hp n h sv)
    (hR : ∀ (z : Int32) hp1, bHk 84 bTT hp1 → P0 hp1 → bFr wM hp hp1 → ((sv = none ∧ rN hp1 66 7 = 1 ∧ rowOk (rN hp1 67) q0 ∧ hyR hp1 n h none) ∨ (∃ q, sv = some q ∧ rN hp1 66 7 = 0 ∧ rowOk (rN hp1 67) q ∧ hyR hp1 0 h (some q) ∧ z.toInt = (((trL q.2.1 225).length : Nat) : Int))) → R (.inl (some (.int z))) hp1) : xK (d + 3) 341 [.ref 66] hp R := by
  obtain ⟨y1, y2, y3, y4⟩ := id hY
  have b6 := rb_fld hH (f := 6) (lo := 2147483648) (hi := 2147483649) rfl
  refine xin (M := am_m341) rfl rfl rfl ?_
  refine xald 1 ⟨u341, _, rfl⟩ rfl rfl ?_
  refine xcst 2 (0) ⟨u341, _, rfl⟩ rfl (by decide) (fun z1 h1 => ?_)
  refine xputI 5 hH ⟨u341, _, rfl⟩ rfl rfl ⟨rfl, rfl⟩ (by omega) (by omega) (fun hp2 hH2 U2 => ?_)
  have s2 := U2.1
  have n2_66_6 : rN hp2 (66) 6 = rN hp (66) 6 := rU_ne U2 (by omega)
  refine xald 6 ⟨u341, _, rfl⟩ rfl rfl ?_
  refine xald 7 ⟨u341, _, rfl⟩ rfl rfl ?_
  refine xgetI 10 hH2 ⟨u341, _, rfl⟩ rfl rfl (fun z7 h7 => ?_)
  refine xif_ne 13 ⟨u341, _, rfl⟩ rfl (fun c10 => ?_) (fun c10 => ?_)
  · refine xcst 18 (0) ⟨u341, _, rfl⟩ rfl (by decide) (fun z17 h17 => ?_)
    refine xcst 19 (1) ⟨u341, _, rfl⟩ rfl (by decide) (fun z18 h18 => ?_)
    refine xcall 22 [.ref 66, .int _, .int _] [] hH2 ⟨u341, _, rfl⟩ rfl rfl rfl rfl rfl (k_failsE hH2 (by omega) (fun hp19 hH19 V19 => ⟨_, rfl, ?_⟩))
    refine xif_eq 25 ⟨u341, _, rfl⟩ rfl (fun c22 => ?_) (fun c22 => ?_)
    · obtain ⟨q, rfl⟩ : ∃ q, sv = some q := by
        cases sv with
        | none => have y4 : rN hp 66 6 = 0 := y4; omega
        | some q => exact ⟨q, rfl⟩
      have y4 : rN hp 66 6 = 1 ∧ rowOk (rN hp 70) q := y4
      have e19 : hp19 = hp2 := by
        rcases V19 with ⟨a, e⟩ | ⟨a, -⟩
        · exact e
        · omega
      subst e19
      refine xald 28 ⟨u341, _, rfl⟩ rfl rfl ?_
      refine xgetR 31 70 hH19 ⟨u341, _, rfl⟩ rfl rfl ?_
      refine xcst 32 (0) ⟨u341, _, rfl⟩ rfl (by decide) (fun z31 h31 => ?_)
      refine xald 33 ⟨u341, _, rfl⟩ rfl rfl ?_
      refine xgetR 36 67 hH19 ⟨u341, _, rfl⟩ rfl rfl ?_
      refine xcst 37 (0) ⟨u341, _, rfl⟩ rfl (by decide) (fun z36 h36 => ?_)
      refine xsip 40 (229) ⟨u341, _, rfl⟩ rfl (by decide) (fun z37 h37 => ?_)
      refine xcallS 43 [.ref 70, .int _, .ref 67, .int _, .int _] [] hH19 ⟨u341, _, rfl⟩ rfl rfl rfl rfl rfl (k_copy 0 0 229 hH19 (by decide) (by decide) (by decide) rfl rfl (by omega) (by omega) (by omega) (by omega) (by omega) (by decide) (fun hp40 hH40 F40 E40 => ⟨_, rfl, ?_⟩))
      have C40 : rowOk (rN hp40 67) q := rowOk_eq y4.2 (fun i hi => by rw [E40 i hi, if_pos (by omega), Nat.sub_zero, Nat.zero_add, rU_ne U2 (by omega)])
      have P40 : P0 hp40 := P0_67 F40 (P0_W (W := [(66, 7)]) (by decide) (rU_fr U2 rfl) hP) (rowOk_V C40)
      refine xald 44 ⟨u341, _, rfl⟩ rfl rfl ?_
      refine xcst 45 (0) ⟨u341, _, rfl⟩ rfl (by decide) (fun z44 h44 => ?_)
      refine xputI 48 hH40 ⟨u341, _, rfl⟩ rfl rfl ⟨rfl, rfl⟩ (by omega) (by omega) (fun hp45 hH45 U45 => ?_)
      have s45 := U45.1
      have n45_66_6 : rN hp45 (66) 6 = rN hp40 (66) 6 := rU_ne U45 (by omega)
      have C45 : rowOk (rN hp45 67) q := rowOk_eq C40 (fun i _ => rU_ne U45 (by omega))
      have g5 : rN hp40 66 5 = (n : Int) := ((r_fr F40 rfl).trans (rU_ne U2 (by omega))).trans y1
      have P45 : P0 hp45 := P0_dep (n := n) U45 g5 (by omega) P40
      have Y45 : hyR hp45 0 h (some q) := ⟨U45.1.trans h44, Nat.zero_le _, fun k hk => absurd hk (Nat.not_lt_zero k), ((rU_ne U45 (by omega)).trans ((r_fr F40 rfl).trans (rU_ne U2 (by omega)))).trans y4.1, rowOk_eq y4.2 (fun i _ => (rU_ne U45 (by omega)).trans ((r_fr F40 rfl).trans (rU_ne U2 (by omega))))⟩
      refine xald 49 ⟨u341, _, rfl⟩ rfl rfl ?_
      refine xcall 52 [.ref 66] [] hH45 ⟨u341, _, rfl⟩ rfl rfl rfl rfl rfl (k_rtm hH45 (V := q.1) (T := q.2.1) (rowOk_rd C45) (fun z49 hp49 hH49 F49 B49 L49 e49 => ⟨_, rfl, ?_⟩))
      have hP49 : P0 hp49 := P0_W (W := bLT) (by decide) F49 P45
      exact xret ⟨u341, _, rfl⟩ rfl (hR _ hp49 hH49 hP49 ((((rU_fr U2 (by decide)).trans (bFr_sub F40 (by decide))).trans (rU_fr U45 (by decide))).trans (bFr_sub F49 (by decide))) (Or.inr ⟨q, rfl, ((r_fr F49 rfl).trans ((rU_ne U45 (by omega)).trans (r_fr F40 rfl))).trans (U2.1.trans h1), rowOk_eq C45 (fun i _ => r_fr F49 rfl), hyR_fr Y45 (r_fr F49 rfl) (r_fr F49 rfl) (fun i => r_fr F49 rfl) (fun i => r_fr F49 rfl), e49⟩))
    · rcases V19 with ⟨a, -⟩ | ⟨a, -⟩ <;> omega
  · refine xcst 14 (1) ⟨u341, _, rfl⟩ rfl (by decide) (fun z13 h13 => ?_)
    refine xgoto ⟨u341, _, rfl⟩ ?_
    refine xcst 19 (1) ⟨u341, _, rfl⟩ rfl (by decide) (fun z18 h18 => ?_)
    refine xcall 22 [.ref 66, .int _, .int _] [] hH2 ⟨u341, _, rfl⟩ rfl rfl rfl rfl rfl (k_failsE hH2 (by omega) (fun hp19 hH19 V19 => ⟨_, rfl, ?_⟩))
    refine xif_eq 25 ⟨u341, _, rfl⟩ rfl (fun c22 => ?_) (fun c22 => ?_)
    · rcases V19 with ⟨a, -⟩ | ⟨a, -⟩ <;> omega
    · refine xcst 26 (0) ⟨u341, _, rfl⟩ rfl (by decide) (fun z25 h25 => ?_)
      rcases V19 with ⟨a, -⟩ | ⟨a, U19⟩
      · omega
      · refine xret ⟨u341, _, rfl⟩ rfl (hR _ hp19 hH19 (P0_W (W := [(66, 7)]) (by decide) ((rU_fr U2 rfl).trans (rU_fr U19 rfl)) hP) ((rU_fr U2 (by decide)).trans (rU_fr U19 (by decide))) (Or.inl ⟨?_, U19.1.trans h18, rowOk_eq hC (fun i _ => (rU_ne U19 (by omega)).trans (rU_ne U2 (by omega))), ?_⟩))
        · cases sv with
          | none => rfl
          | some q => exact absurd y4.1 (by omega)
        · cases sv with
          | none => exact hyR_fr hY ((rU_ne U19 (by omega)).trans (rU_ne U2 (by omega))) ((rU_ne U19 (by omega)).trans (rU_ne U2 (by omega))) (fun i => (rU_ne U19 (by omega)).trans (rU_ne U2 (by omega))) (fun i => (rU_ne U19 (by omega)).trans (rU_ne U2 (by omega)))
          | some q => exact absurd y4.1 (by omega)
end
/-! ##### 19.m.041.32a ##### -/
section
/-! ===== the class drops a triple ===== -/
theorem k_part {d : Nat} {hp : amH} {R : xQ} {o V x y : Nat} {a b : Int32} (ho : bo o) (hH : bHk 84 bTT hp) (hV : rN hp o 0 = (V : Int)) (ha : a.toInt = (x : Int)) (hb : b.toInt = (y : Int)) (hx : x < V) (hy : y < V) (hxy : ¬ x = y) {m n : Nat} (hm : rN hp (o + 3) x = (m : Int)) (hn : rN hp (o + 3) y = (n : Int)) (hm2 : m < 32768) (hn2 : n < 32768)
    (hR : ∀ hp1, bHk 84 bTT hp1 → bFx [o + 1, o + 3] hp hp1 → (∀ u v, u < 15 → v < 15 → rN hp1 (o + 1) (15 * u + v) = if (u = x ∧ v = y) ∨ (u = y ∧ v = x) then -1 else rN hp (o + 1) (15 * u + v)) → rN hp1 (o + 3) x = ((m ||| 2 ^ y : Nat) : Int) → rN hp1 (o + 3) y = ((n ||| 2 ^ x : Nat) : Int) → (∀ p, ¬ p = x → ¬ p = y → rN hp1 (o + 3) p = rN hp (o + 3) p) → R (.inl none) hp1) : xK (d + 1) 17 [.ref o, .int a, .int b] hp R := by
  have q := b_pts hH ho
  refine xin (M := am_m17) rfl rfl (by unfold xAv; simp [amOk, bo_lt ho, Value.category]) ?_
  refine xald 1 ⟨u17, _, rfl⟩ rfl rfl ?_
  refine xild 2 ⟨u17, _, rfl⟩ rfl rfl ?_
  refine xcallC 5 (o := o) [.int _] [] hH ⟨u17, _, rfl⟩ rfl rfl (bo_lt ho) (bo_T ho) (by decide) rfl ⟨rfl, rfl, rfl, rfl⟩ rfl (k_isp ho hH (fun z2 h2 => ⟨_, rfl, ?_⟩))
  refine xif_eq 8 ⟨u17, _, rfl⟩ rfl (fun c5 => ?_) (fun c5 => ?_)
  · omega
  · refine xald 9 ⟨u17, _, rfl⟩ rfl rfl ?_
    refine xild 10 ⟨u17, _, rfl⟩ rfl rfl ?_
    refine xcallC 13 (o := o) [.int _] [] hH ⟨u17, _, rfl⟩ rfl rfl (bo_lt ho) (bo_T ho) (by decide) rfl ⟨rfl, rfl, rfl, rfl⟩ rfl (k_isp ho hH (fun z10 h10 => ⟨_, rfl, ?_⟩))
    refine xif_eq 16 ⟨u17, _, rfl⟩ rfl (fun c13 => ?_) (fun c13 => ?_)
    · omega
    · refine xald 17 ⟨u17, _, rfl⟩ rfl rfl ?_
      refine xgetD 20 (o + 1) hH ⟨u17, _, rfl⟩ rfl (bo_lt ho) (by decide) (bo_T ho) rfl (by decide) ?_
      refine xild 21 ⟨u17, _, rfl⟩ rfl rfl ?_
      refine xbip 23 (15) ⟨u17, _, rfl⟩ rfl (by decide) (fun z21 h21 => ?_)
      refine xmul 24 (Int32.toInt a * 15) ⟨u17, _, rfl⟩ rfl (by rw [h21]) (by omega) (by omega) (fun z23 h23 => ?_)
      refine xild 25 ⟨u17, _, rfl⟩ rfl rfl ?_
      refine xadd 26 _ ⟨u17, _, rfl⟩ rfl rfl (by omega) (by omega) (fun z25 h25 => ?_)
      refine xcst 27 (-1) ⟨u17, _, rfl⟩ rfl (by decide) (fun z26 h26 => ?_)
      refine xiast 28 (z25).toInt.toNat hH ⟨u17, _, rfl⟩ rfl (bo_lt1 ho) (bo_T1 ho) (by omega) (by omega) (by omega) (by omega) (fun hp27 hH27 U27 => ?_)
      have s27 := U27.1
      refine xald 29 ⟨u17, _, rfl⟩ rfl rfl ?_
      refine xgetD 32 (o + 1) hH27 ⟨u17, _, rfl⟩ rfl (bo_lt ho) (by decide) (bo_T ho) rfl (by decide) ?_
      refine xild 33 ⟨u17, _, rfl⟩ rfl rfl ?_
      refine xbip 35 (15) ⟨u17, _, rfl⟩ rfl (by decide) (fun z33 h33 => ?_)
      refine xmul 36 (Int32.toInt b * 15) ⟨u17, _, rfl⟩ rfl (by rw [h33]) (by omega) (by omega) (fun z35 h35 => ?_)
      refine xild 37 ⟨u17, _, rfl⟩ rfl rfl ?_
      refine xadd 38 _ ⟨u17, _, rfl⟩ rfl rfl (by omega) (by omega) (fun z37 h37 => ?_)
      refine xcst 39 (-1) ⟨u17, _, rfl⟩ rfl (by decide) (fun z38 h38 => ?_)
      refine xiast 40 (z37).toInt.toNat hH27 ⟨u17, _, rfl⟩ rfl (bo_lt1 ho) (bo_T1 ho) (by omega) (by omega) (by omega) (by omega) (fun hp39 hH39 U39 => ?_)
      have s39 := U39.1
      refine xald 41 ⟨u17, _, rfl⟩ rfl rfl ?_
      refine xgetD 44 (o + 3) hH39 ⟨u17, _, rfl⟩ rfl (bo_lt ho) (by decide) (bo_T ho) rfl (by decide) ?_
      refine xild 45 ⟨u17, _, rfl⟩ rfl rfl ?_
      refine xdup2 46 ⟨u17, _, rfl⟩ rfl rfl rfl ?_
      refine xiald 47 (a).toInt.toNat hH39 ⟨u17, _, rfl⟩ rfl (bo_lt3 ho) (bo_T3 ho) (by omega) (by omega) (fun z46 h46 => ?_)
      refine xcst 48 (1) ⟨u17, _, rfl⟩ rfl (by decide) (fun z47 h47 => ?_)
      refine xild 49 ⟨u17, _, rfl⟩ rfl rfl ?_
      refine xshl 50 ⟨u17, _, rfl⟩ rfl ?_
      refine xor_ 51 ⟨u17, _, rfl⟩ rfl ?_
      have h46m : z46.toInt = (m : Int) := by rw [h46, rU_ne U39 (by omega), rU_ne U27 (by omega), show a.toInt.toNat = x by omega]; exact hm
      have w0 := i_shl h47 hb (by omega)
      have w1 := i_or h46m w0.1 hm2 w0.2
      refine xiast 52 (a).toInt.toNat hH39 ⟨u17, _, rfl⟩ rfl (bo_lt3 ho) (bo_T3 ho) (by omega) (by omega) (by omega) (by omega) (fun hp51 hH51 U51 => ?_)
      have s51 := U51.1
      refine xald 53 ⟨u17, _, rfl⟩ rfl rfl ?_
      refine xgetD 56 (o + 3) hH51 ⟨u17, _, rfl⟩ rfl (bo_lt ho) (by decide) (bo_T ho) rfl (by decide) ?_
      refine xild 57 ⟨u17, _, rfl⟩ rfl rfl ?_
      refine xdup2 58 ⟨u17, _, rfl⟩ rfl rfl rfl ?_
      refine xiald 59 (b).toInt.toNat hH51 ⟨u17, _, rfl⟩ rfl (bo_lt3 ho) (bo_T3 ho) (by omega) (by omega) (fun z58 h58 => ?_)
      refine xcst 60 (1) ⟨u17, _, rfl⟩ rfl (by decide) (fun z59 h59 => ?_)
      refine xild 61 ⟨u17, _, rfl⟩ rfl rfl ?_
      refine xshl 62 ⟨u17, _, rfl⟩ rfl ?_
      refine xor_ 63 ⟨u17, _, rfl⟩ rfl ?_
      have h58n : z58.toInt = (n : Int) := by rw [h58, rU_ne U51 (by omega), rU_ne U39 (by omega), rU_ne U27 (by omega), show b.toInt.toNat = y by omega]; exact hn
      have w3 := i_shl h59 ha (by omega)
      have w2 := i_or h58n w3.1 hn2 w3.2
      refine xiast 64 (b).toInt.toNat hH51 ⟨u17, _, rfl⟩ rfl (bo_lt3 ho) (bo_T3 ho) (by omega) (by omega) (by omega) (by omega) (fun hp63 hH63 U63 => ?_)
      have s63 := U63.1
      exact xretV ⟨u17, _, rfl⟩ rfl (hR hp63 hH63 ((((bFx_U U27 (by simp)).trans (bFx_U U39 (by simp))).trans (bFx_U U51 (by simp))).trans (bFx_U U63 (by simp))) (fun u v hu hv => by
          rw [rU_ne U63 (by omega), rU_ne U51 (by omega)]
          by_cases e2 : u = y ∧ v = x
          · obtain ⟨rfl, rfl⟩ := e2
            rw [if_pos (by omega), show 15 * u + v = z37.toInt.toNat by omega]
            exact U39.1.trans h38
          · rw [rU_ne U39 (by omega)]
            by_cases e1 : u = x ∧ v = y
            · obtain ⟨rfl, rfl⟩ := e1
              rw [if_pos (by omega), show 15 * u + v = z25.toInt.toNat by omega]
              exact U27.1.trans h26
            · rw [if_neg (by omega), rU_ne U27 (by omega)]) (by rw [rU_ne U63 (by omega), show x = a.toInt.toNat by omega, U51.1, w1.1]) (by rw [show y = b.toInt.toNat by omega, U63.1, w2.1]) (fun p p1 p2 => by rw [rU_ne U63 (by omega), rU_ne U51 (by omega), rU_ne U39 (by omega), rU_ne U27 (by omega)]))
theorem op_take {V x y z p : Nat} {T : sT} (hV : V ≤ 15) (hx : x < V) (hy : y < V) (hz : z < V) (hxy : ¬ x = y) (hyz : ¬ y = z) (hxz : ¬ x = z) : opN V (sTake T x y z) p = if p = x then opN V T x ||| 2 ^ y ||| 2 ^ z else if p = y then opN V T y ||| 2 ^ x ||| 2 ^ z else if p = z then opN V T z ||| 2 ^ x ||| 2 ^ y else opN V T p := by
  have go : ∀ x y z : Nat, x < V → y < V → z < V → ¬ x = y → ¬ y = z → ¬ x = z → ∀ S : sT, (∀ i, S x i = -1 ↔ (T x i = -1 ∨ i = y ∨ i = z)) → opN V S x = opN V T x ||| 2 ^ y ||| 2 ^ z := by
    intro x y z hx hy hz hxy hyz hxz S hS
    apply Nat.eq_of_testBit_eq
    intro i
    rw [Nat.testBit_or, Nat.testBit_or, op_test hV, op_test hV, p2_test, p2_test]
    have := hS i
    by_cases e1 : i = y
    · subst e1; simp [this, hx, hy, hxy]
    · by_cases e2 : i = z
      · subst e2; simp [this, hx, hz, hxz]
      · simp [this, e1, e2]
  have hS : ∀ p i, ¬ sPr x y z p i → sTake T x y z p i = T p i := fun p i h => by unfold sTake; rw [if_neg h]
  have hS2 : ∀ p i, sPr x y z p i → sTake T x y z p i = -1 := fun p i h => by unfold sTake; rw [if_pos h]
  by_cases e : p = x
  · subst e
    rw [if_pos rfl]
    refine go p y z hx hy hz hxy hyz hxz _ (fun i => ?_)
    by_cases h : sPr p y z p i
    · rw [hS2 _ _ h]
      exact ⟨fun _ => by omega, fun _ => rfl⟩
    · rw [hS _ _ h]
      exact ⟨fun g => Or.inl g, fun g => by rcases g with g | g; exact g; exact absurd ⟨by omega, by omega, by omega⟩ h⟩
  · rw [if_neg e]
    by_cases e : p = y
    · subst e
      rw [if_pos rfl]
      refine go p x z hy hx hz (by omega) hxz hyz _ (fun i => ?_)
      by_cases h : sPr x p z p i
      · rw [hS2 _ _ h]
        exact ⟨fun _ => by omega, fun _ => rfl⟩
      · rw [hS _ _ h]
        exact ⟨fun g => Or.inl g, fun g => by rcases g with g | g; exact g; exact absurd ⟨by omega, by omega, by omega⟩ h⟩
    · rw [if_neg e]
      by_cases e : p = z
      · subst e
        rw [if_pos rfl]
        refine go p x y hz hx hy (by omega) hxy (by omega) _ (fun i => ?_)
        by_cases h : sPr x y p p i
        · rw [hS2 _ _ h]
          exact ⟨fun _ => by omega, fun _ => rfl⟩
        · rw [hS _ _ h]
          exact ⟨fun g => Or.inl g, fun g => by rcases g with g | g; exact g; exact absurd ⟨by omega, by omega, by omega⟩ h⟩
      · rw [if_neg e]
        apply Nat.eq_of_testBit_eq
        intro i
        rw [op_test hV, op_test hV, hS _ _ (by omega)]
theorem k_bdrop {d : Nat} {hp : amH} {R : xQ} {o V x y z : Nat} {T : sT} {s : Int32} (ho : bo o) (hH : bHk 84 bTT hp) (hB : bdOk hp o V T) (hs : s.toInt = ((m3 x y z : Nat) : Int)) (q1 : x < y) (q2 : y < z) (hf : T x y = (z : Int))
    (hR : ∀ hp1, bHk 84 bTT hp1 → bFx [o + 1, o + 3] hp hp1 → bdOk hp1 o V (sTake T x y z) → R (.inl none) hp1) : xK (d + 2) 15 [.ref o, .int s] hp R := by
  obtain ⟨B1, B2, B3, B4, B5⟩ := id hB
  have hV : V ≤ 15 := B2.2.1
  obtain ⟨k, ek, -, -, q3, -⟩ := sOk_at B2 hf (by omega)
  have q3 : z < V := by omega
  obtain ⟨M0, M1, M2⟩ := mem3 q1 q2 (by omega)
  have hm := m3_lt (x := x) (y := y) (z := z) (by omega) (by omega) (by omega)
  have ox := B5 x (by omega)
  have oy := B5 y (by omega)
  have oz := B5 z (by omega)
  have lx := op_lt V T x
  have ly := op_lt V T y
  have lz := op_lt V T z
  have px : 2 ^ x < 2 ^ 15 := Nat.pow_lt_pow_right (by decide) (by omega)
  have py : 2 ^ y < 2 ^ 15 := Nat.pow_lt_pow_right (by decide) (by omega)
  have mx : opN V T x ||| 2 ^ y < 2 ^ 15 := Nat.or_lt_two_pow (by omega) py
  have my : opN V T y ||| 2 ^ x < 2 ^ 15 := Nat.or_lt_two_pow (by omega) px
  have mz : opN V T z ||| 2 ^ x < 2 ^ 15 := Nat.or_lt_two_pow (by omega) px
  refine xin (M := am_m15) rfl rfl (by unfold xAv; simp [amOk, bo_lt ho, Value.category]) ?_
  refine xild 1 ⟨u15, _, rfl⟩ rfl rfl ?_
  refine xcst 2 (0) ⟨u15, _, rfl⟩ rfl (by decide) (fun z1 h1 => ?_)
  refine xcallS 5 [.int _, .int _] [] hH ⟨u15, _, rfl⟩ rfl rfl rfl rfl rfl (k_mem hH hs hm (i := 0) (by omega) (fun z2 h2 => ⟨_, rfl, ?_⟩))
  refine xist 6 ⟨u15, _, rfl⟩ rfl rfl ?_
  refine xild 7 ⟨u15, _, rfl⟩ rfl rfl ?_
  refine xcst 8 (1) ⟨u15, _, rfl⟩ rfl (by decide) (fun z7 h7 => ?_)
  refine xcallS 11 [.int _, .int _] [] hH ⟨u15, _, rfl⟩ rfl rfl rfl rfl rfl (k_mem hH hs hm (i := 1) (by omega) (fun z8 h8 => ⟨_, rfl, ?_⟩))
  refine xist 12 ⟨u15, _, rfl⟩ rfl rfl ?_
  refine xild 13 ⟨u15, _, rfl⟩ rfl rfl ?_
  refine xcst 14 (2) ⟨u15, _, rfl⟩ rfl (by decide) (fun z13 h13 => ?_)
  refine xcallS 17 [.int _, .int _] [] hH ⟨u15, _, rfl⟩ rfl rfl rfl rfl rfl (k_mem hH hs hm (i := 2) (by omega) (fun z14 h14 => ⟨_, rfl, ?_⟩))
  refine xist2 19 ⟨u15, _, rfl⟩ rfl rfl ?_
  refine xald 20 ⟨u15, _, rfl⟩ rfl rfl ?_
  refine xild 21 ⟨u15, _, rfl⟩ rfl rfl ?_
  refine xild 22 ⟨u15, _, rfl⟩ rfl rfl ?_
  refine xcallC 25 (o := o) [.int _, .int _] [] hH ⟨u15, _, rfl⟩ rfl rfl (bo_lt ho) (bo_T ho) (by decide) rfl ⟨rfl, rfl, rfl, rfl⟩ rfl (k_part ho hH (V := V) B1 (x := x) (y := y) (by omega) (by omega) (by omega) (by omega) (by omega) ox oy lx ly (fun hp22 hH22 F22 E22 A22 B22 C22 => ⟨_, rfl, ?_⟩))
  refine xald 26 ⟨u15, _, rfl⟩ rfl rfl ?_
  refine xild 27 ⟨u15, _, rfl⟩ rfl rfl ?_
  refine xild2 29 ⟨u15, _, rfl⟩ rfl rfl ?_
  refine xcallC 32 (o := o) [.int _, .int _] [] hH22 ⟨u15, _, rfl⟩ rfl rfl (bo_lt ho) (bo_T ho) (by decide) rfl ⟨rfl, rfl, rfl, rfl⟩ rfl (k_part ho hH22 (V := V) (by rw [bFx_n F22 (by simp)]; exact B1) (x := x) (y := z) (by omega) (by omega) (by omega) (by omega) (by omega) A22 (by rw [C22 z (by omega) (by omega)]; exact oz) (by omega) lz (fun hp29 hH29 F29 E29 A29 B29 C29 => ⟨_, rfl, ?_⟩))
  refine xald 33 ⟨u15, _, rfl⟩ rfl rfl ?_
  refine xild 34 ⟨u15, _, rfl⟩ rfl rfl ?_
  refine xild2 36 ⟨u15, _, rfl⟩ rfl rfl ?_
  refine xcallC 39 (o := o) [.int _, .int _] [] hH29 ⟨u15, _, rfl⟩ rfl rfl (bo_lt ho) (bo_T ho) (by decide) rfl ⟨rfl, rfl, rfl, rfl⟩ rfl (k_part ho hH29 (V := V) (by rw [bFx_n F29 (by simp), bFx_n F22 (by simp)]; exact B1) (x := y) (y := z) (by omega) (by omega) (by omega) (by omega) (by omega) (by rw [C29 y (by omega) (by omega)]; exact B22) B29 (by omega) (by omega) (fun hp36 hH36 F36 E36 A36 B36 C36 => ⟨_, rfl, ?_⟩))
  have F := (F22.trans F29).trans F36
  have O := fun p => op_take (p := p) (T := T) hV (show x < V by omega) (show y < V by omega) q3 (by omega) (by omega) (by omega)
  exact xretV ⟨u15, _, rfl⟩ rfl (hR hp36 hH36 F ⟨by rw [bFx_n F (by simp)]; exact B1, sOk_take B2 hf, fun u v hu hv => by
      rw [E36 u v hu hv, E29 u v hu hv, E22 u v hu hv, B3 u v hu hv]
      unfold sTake
      by_cases e1 : (u = y ∧ v = z) ∨ (u = z ∧ v = y)
      · rw [if_pos e1, if_pos (by omega)]
      · rw [if_neg e1]
        by_cases e2 : (u = x ∧ v = z) ∨ (u = z ∧ v = x)
        · rw [if_pos e2, if_pos (by omega)]
        · rw [if_neg e2]
          by_cases e3 : (u = x ∧ v = y) ∨ (u = y ∧ v = x)
          · rw [if_pos e3, if_pos (by omega)]
          · rw [if_neg e3, if_neg (by omega)], fun u v h => by
      unfold sTake
      split
      · rfl
      · exact B4 u v h, fun p hp => by
      rw [O p]
      by_cases e1 : p = x
      · subst e1
        rw [if_pos rfl, C36 p (by omega) (by omega)]; exact A29
      · rw [if_neg e1]
        by_cases e2 : p = y
        · subst e2
          rw [if_pos rfl]; exact A36
        · rw [if_neg e2]
          by_cases e3 : p = z
          · subst e3
            rw [if_pos rfl]; exact B36
          · rw [if_neg e3, C36 p e2 e3, C29 p e1 e3, C22 p e1 e2]; exact B5 p hp⟩)
end
