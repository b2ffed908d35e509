/-! ===== systems with their tallies, what was; snapshots ===== -/
/-- a system: how many points, the third points, the tally -/
abbrev sR : Type := Nat × sT × (Nat → Int)
def rowOk (r : Nat → Int) (q : sR) : Prop := r 0 = (q.1 : Int) ∧ sOk q.1 q.2.1 ∧ (∀ u v, u < 15 → v < 15 → r (4 + 15 * u + v) = q.2.1 u v) ∧ (∀ u v, ¬ (u < 15 ∧ v < 15) → q.2.1 u v = -1) ∧ ∀ i, i < 3 → r (i + 1) = q.2.2 i
theorem bY_bx {W : List Nat} {hp hp1 : amH} {c i : Nat} {v : Value} (U : rV hp hp1 c i v) (h : c ∈ W) : bFx W hp hp1 := fun c1 k e => U.2 c1 k (fun z => e (by rw [z.1]; exact h))
/-- a snapshot's cell -/
def sn (s : Nat) : Prop := s ∈ [16, 19, 22, 25, 28, 31, 34, 37, 40, 43, 46]
theorem sn_c {s : Nat} (h : sn s) : s = 16 ∨ s = 19 ∨ s = 22 ∨ s = 25 ∨ s = 28 ∨ s = 31 ∨ s = 34 ∨ s = 37 ∨ s = 40 ∨ s = 43 ∨ s = 46 := by
  unfold sn at h
  simpa using h
theorem sn_T {s : Nat} (h : sn s) : bTT s = some (6, 4, [.inl (2147483648, 2147483663), .inl (2147483648, 2147483683), .inr (.inr [17, 20, 23, 26, 29, 32, 35, 38, 41, 44, 47]), .inr (.inr [18, 21, 24, 27, 30, 33, 36, 39, 42, 45, 48])]) := by rcases sn_c h with rfl | rfl | rfl | rfl | rfl | rfl | rfl | rfl | rfl | rfl | rfl <;> rfl
theorem sn_T1 {s : Nat} (h : sn s) : bTT (s + 1) = some (32, 35, [.inl (0, 4294967295)]) := by rcases sn_c h with rfl | rfl | rfl | rfl | rfl | rfl | rfl | rfl | rfl | rfl | rfl <;> rfl
theorem sn_T2 {s : Nat} (h : sn s) : bTT (s + 2) = some (7, 3, [.inl (0, 4294967295), .inl (0, 4294967295), .inl (0, 4294967295)]) := by rcases sn_c h with rfl | rfl | rfl | rfl | rfl | rfl | rfl | rfl | rfl | rfl | rfl <;> rfl
theorem sn_lt {s : Nat} (h : sn s) : s < 84 := by have := sn_c h; omega
theorem sn_lt1 {s : Nat} (h : sn s) : s + 1 < 84 := by have := sn_c h; omega
theorem sn_lt2 {s : Nat} (h : sn s) : s + 2 < 84 := by have := sn_c h; omega
/-- a tally's cell -/
def ta (a : Nat) : Prop := a = 13 ∨ ∃ s, sn s ∧ a = s + 2
theorem ta_T {a : Nat} (h : ta a) : bTT a = some (7, 3, [.inl (0, 4294967295), .inl (0, 4294967295), .inl (0, 4294967295)]) := by
  rcases h with rfl | ⟨s, h, rfl⟩
  · rfl
  · exact sn_T2 h
theorem ta_lt {a : Nat} (h : ta a) : a < 84 := by
  rcases h with rfl | ⟨s, h, rfl⟩
  · decide
  · exact sn_lt2 h
/-- a snapshot holds its row and its tally -/
def snF (hp : amH) (s : Nat) : Prop := bFld hp s 2 = some (.ref (s + 1)) ∧ bFld hp s 3 = some (.ref (s + 2))
/-- a snapshot of a system -/
def snOk (hp : amH) (s : Nat) (q : sR) : Prop := rN hp s 0 = (q.1 : Int) ∧ sOk q.1 q.2.1 ∧ (∀ u v, ¬ (u < 15 ∧ v < 15) → q.2.1 u v = -1) ∧ rN hp s 1 = (((trL q.2.1 225).length : Nat) : Int) ∧ (∀ t, t < (trL q.2.1 225).length → rN hp (s + 1) t = ((mk3 q.2.1 ((trL q.2.1 225).getD t 0) : Nat) : Int)) ∧ ∀ i, i < 3 → rN hp (s + 2) i = q.2.2 i
theorem snOk_fr {hp hp1 : amH} {s : Nat} {q : sR} (h : snOk hp s q) (F : ∀ c, s ≤ c → c ≤ s + 2 → ∀ k, bFld hp1 c k = bFld hp c k) : snOk hp1 s q := by
  obtain ⟨h1, h2, h3, h4, h5, h6⟩ := h
  have e : ∀ c, s ≤ c → c ≤ s + 2 → ∀ k, rN hp1 c k = rN hp c k := fun c c1 c2 k => rN_eq (F c c1 c2 k)
  exact ⟨by rw [e s (by omega) (by omega)]; exact h1, h2, h3, by rw [e s (by omega) (by omega)]; exact h4, fun t ht => by rw [e _ (by omega) (by omega)]; exact h5 t ht, fun i hi => by rw [e _ (by omega) (by omega)]; exact h6 i hi⟩
theorem u9 : bUp 0 am_m9.1 = true := by decide +kernel
theorem u50 : bUp 0 am_m50.1 = true := by decide +kernel
theorem u51 : bUp 0 am_m51.1 = true := by decide +kernel
theorem u52 : bUp 0 am_m52.1 = true := by decide +kernel
theorem u53 : bUp 0 am_m53.1 = true := by decide +kernel
theorem u54 : bUp 0 am_m54.1 = true := by decide +kernel
theorem u89 : bUp 0 am_m89.1 = true := by decide +kernel
theorem u90 : bUp 0 am_m90.1 = true := by decide +kernel
theorem u93 : bUp 0 am_m93.1 = true := by decide +kernel
theorem u184 : bUp 0 am_m184.1 = true := by decide +kernel
theorem k_tyc {d : Nat} {hp : amH} {R : xQ} {a b : Nat} (ha : ta a) (hb : ta b) (hne : ¬ a = b) (hH : bHk 84 bTT hp) (hR : ∀ hp1, bHk 84 bTT hp1 → bFx [a] hp hp1 → (∀ i, i < 3 → rN hp1 a i = rN hp b i) → R (.inl none) hp1) : xK d 93 [.ref a, .ref b] hp R := by
  refine xin (M := am_m93) rfl rfl (by unfold xAv; simp [amOk, ta_lt ha, ta_lt hb, Value.category]) ?_
  refine xald 1 ⟨u93, _, rfl⟩ rfl rfl ?_
  refine xald 2 ⟨u93, _, rfl⟩ rfl rfl ?_
  refine xgetC 5 hH ⟨u93, _, rfl⟩ rfl (ta_lt hb) (by decide) (ta_T hb) rfl (by decide) (fun z2 h2 => ?_)
  have bm2 := aMin z2
  have bx2 := aMax z2
  refine xputC 8 hH ⟨u93, _, rfl⟩ rfl (ta_lt ha) (by decide) (ta_T ha) rfl (by decide) ⟨rfl, rfl⟩ (by omega) (by omega) (fun hp5 hH5 U5 => ?_)
  have s5 := U5.1
  have n5_a_1 : rN hp5 (a) 1 = rN hp (a) 1 := rU_ne U5 (by omega)
  have n5_a_2 : rN hp5 (a) 2 = rN hp (a) 2 := rU_ne U5 (by omega)
  have n5_b_0 : rN hp5 (b) 0 = rN hp (b) 0 := rU_ne U5 (by omega)
  have n5_b_1 : rN hp5 (b) 1 = rN hp (b) 1 := rU_ne U5 (by omega)
  have n5_b_2 : rN hp5 (b) 2 = rN hp (b) 2 := rU_ne U5 (by omega)
  refine xald 9 ⟨u93, _, rfl⟩ rfl rfl ?_
  refine xald 10 ⟨u93, _, rfl⟩ rfl rfl ?_
  refine xgetC 13 hH5 ⟨u93, _, rfl⟩ rfl (ta_lt hb) (by decide) (ta_T hb) rfl (by decide) (fun z10 h10 => ?_)
  have bm10 := aMin z10
  have bx10 := aMax z10
  refine xputC 16 hH5 ⟨u93, _, rfl⟩ rfl (ta_lt ha) (by decide) (ta_T ha) rfl (by decide) ⟨rfl, rfl⟩ (by omega) (by omega) (fun hp13 hH13 U13 => ?_)
  have s13 := U13.1
  have n13_a_0 : rN hp13 (a) 0 = rN hp5 (a) 0 := rU_ne U13 (by omega)
  have n13_a_2 : rN hp13 (a) 2 = rN hp5 (a) 2 := rU_ne U13 (by omega)
  have n13_b_0 : rN hp13 (b) 0 = rN hp5 (b) 0 := rU_ne U13 (by omega)
  have n13_b_1 : rN hp13 (b) 1 = rN hp5 (b) 1 := rU_ne U13 (by omega)
  have n13_b_2 : rN hp13 (b) 2 = rN hp5 (b) 2 := rU_ne U13 (by omega)
  refine xald 17 ⟨u93, _, rfl⟩ rfl rfl ?_
  refine xald 18 ⟨u93, _, rfl⟩ rfl rfl ?_
  refine xgetC 21 hH13 ⟨u93, _, rfl⟩ rfl (ta_lt hb) (by decide) (ta_T hb) rfl (by decide) (fun z18 h18 => ?_)
  have bm18 := aMin z18
  have bx18 := aMax z18
  refine xputC 24 hH13 ⟨u93, _, rfl⟩ rfl (ta_lt ha) (by decide) (ta_T ha) rfl (by decide) ⟨rfl, rfl⟩ (by omega) (by omega) (fun hp21 hH21 U21 => ?_)
  have s21 := U21.1
  have n21_a_0 : rN hp21 (a) 0 = rN hp13 (a) 0 := rU_ne U21 (by omega)
  have n21_a_1 : rN hp21 (a) 1 = rN hp13 (a) 1 := rU_ne U21 (by omega)
  have n21_b_0 : rN hp21 (b) 0 = rN hp13 (b) 0 := rU_ne U21 (by omega)
  have n21_b_1 : rN hp21 (b) 1 = rN hp13 (b) 1 := rU_ne U21 (by omega)
  have n21_b_2 : rN hp21 (b) 2 = rN hp13 (b) 2 := rU_ne U21 (by omega)
  exact xretV ⟨u93, _, rfl⟩ rfl (hR _ hH21 (((bFx_U U5 (by simp)).trans (bFx_U U13 (by simp))).trans (bFx_U U21 (by simp))) (fun i hi => by rcases (by omega : i = 0 ∨ i = 1 ∨ i = 2) with rfl | rfl | rfl <;> omega))
/-- the set of a triple of the board -/
theorem k_set {d : Nat} {hp : amH} {R : xQ} {o : Nat} {a : Int32} (ho : bo o) (hH : bHk 84 bTT hp) (hR : ∀ z : Int32, z.toInt = (if 0 ≤ a.toInt ∧ a.toInt < rN hp o 1 then rN hp (o + 4) a.toInt.toNat else 0) → R (.inl (some (.int z))) hp) : xK d 9 [.ref o, .int a] hp R := by
  have q1 := rb_c hH (bo_lt ho) (bo_T ho) (f := 1) rfl (by decide)
  refine xin (M := am_m9) rfl rfl (by unfold xAv; simp [amOk, bo_lt ho, Value.category]) ?_
  refine xild 1 ⟨u9, _, rfl⟩ rfl rfl ?_
  refine xif_lt 4 ⟨u9, _, rfl⟩ rfl (fun c1 => ?_) (fun c1 => ?_)
  · refine xcst 22 (0) ⟨u9, _, rfl⟩ rfl (by decide) (fun z21 h21 => ?_)
    exact xret ⟨u9, _, rfl⟩ rfl (hR _ (by rw [if_neg (by omega)]; exact h21))
  · refine xild 5 ⟨u9, _, rfl⟩ rfl rfl ?_
    refine xald 6 ⟨u9, _, rfl⟩ rfl rfl ?_
    refine xgetC 9 hH ⟨u9, _, rfl⟩ rfl (bo_lt ho) (by decide) (bo_T ho) rfl (by decide) (fun z6 h6 => ?_)
    refine xcmp_ge 12 ⟨u9, _, rfl⟩ rfl (fun c9 => ?_) (fun c9 => ?_)
    · refine xcst 22 (0) ⟨u9, _, rfl⟩ rfl (by decide) (fun z21 h21 => ?_)
      exact xret ⟨u9, _, rfl⟩ rfl (hR _ (by rw [if_neg (by omega)]; exact h21))
    · refine xald 13 ⟨u9, _, rfl⟩ rfl rfl ?_
      refine xgetD 16 (o + 4) hH ⟨u9, _, rfl⟩ rfl (bo_lt ho) (by decide) (bo_T ho) rfl (by decide) ?_
      refine xild 17 ⟨u9, _, rfl⟩ rfl rfl ?_
      refine xiald 18 (a).toInt.toNat hH ⟨u9, _, rfl⟩ rfl (bo_lt4 ho) (bo_T4 ho) (by omega) (by omega) (fun z17 h17 => ?_)
      refine xgoto ⟨u9, _, rfl⟩ ?_
      exact xret ⟨u9, _, rfl⟩ rfl (hR _ (by rw [if_pos (by omega)]; exact h17))
theorem bTT3 : bTT 3 = some (0, 6, [.inl (2147483648, 2147483663), .inl (2147483648, 2147483683), .inr (.inr [4]), .inr (.inr [5]), .inr (.inr [6]), .inr (.inr [7])]) := rfl
theorem l89 {d : Nat} {hp0 : amH} {R : xQ} {s b : Nat} (hs : sn s) (hb : ta b) (hne : ¬ s + 2 = b) (hne1 : ¬ b = s + 1) (F2 : snF hp0 s)
    (hR : ∀ hp1, bHk 84 bTT hp1 → bFx [s + 1, s + 2] hp0 hp1 → (∀ t : Nat, (t : Int) < rN hp0 3 1 → rN hp1 (s + 1) t = rN hp0 7 t) → (∀ i, i < 3 → rN hp1 (s + 2) i = rN hp0 b i) → R (.inl none) hp1) :
    ∀ (jj t : Nat) (w : Int32) (hp : amH), w.toInt = (t : Int) → t + jj = 35 → bHk 84 bTT hp → bFx [s + 1] hp0 hp → (∀ j, j < t → (j : Int) < rN hp0 3 1 → rN hp (s + 1) j = rN hp0 7 j) → xV (d + 1) am_m89 18 [some (.ref s), some (.ref 3), some (.ref b), some (.int w)] [] hp R := by
  have c := sn_c hs
  intro jj
  induction jj with
  | zero =>
    intro t w hp hw hj hH hF hA
    have q1 := rb_c hH (c := 3) (by decide) (bTT3) (f := 1) rfl (by decide)
    have f2 := (hF s 2 (by simp)).trans F2.1
    have f3 := (hF s 3 (by simp)).trans F2.2
    have e1 : rN hp 3 1 = rN hp0 3 1 := bFx_n hF (by simp; omega)
    refine xild 19 ⟨u89, _, rfl⟩ rfl rfl ?_
    refine xald 20 ⟨u89, _, rfl⟩ rfl rfl ?_
    refine xgetF 23 (s + 1) hH ⟨u89, _, rfl⟩ rfl (sn_lt hs) (by decide) (sn_T hs) (f2) ?_
    refine xlen 24 hH ⟨u89, _, rfl⟩ rfl (sn_lt1 hs) (sn_T1 hs) (by decide) (by decide) (fun z23 h23 => ?_)
    refine xcmp_ge 27 ⟨u89, _, rfl⟩ rfl (fun c24 => ?_) (fun c24 => ?_)
    · refine xald 45 ⟨u89, _, rfl⟩ rfl rfl ?_
      refine xgetF 48 (s + 2) hH ⟨u89, _, rfl⟩ rfl (sn_lt hs) (by decide) (sn_T hs) (f3) ?_
      refine xald 49 ⟨u89, _, rfl⟩ rfl rfl ?_
      refine xcallC 52 (o := s + 2) [.ref (b)] [] hH ⟨u89, _, rfl⟩ rfl rfl (sn_lt2 hs) (sn_T2 hs) (by decide) rfl ⟨rfl, rfl, rfl, rfl⟩ rfl (k_tyc (Or.inr ⟨s, hs, rfl⟩) hb hne hH (fun hp49 hH49 F49 E49 => ⟨_, rfl, ?_⟩))
      exact xretV ⟨u89, _, rfl⟩ rfl (hR _ hH49 ((hF.mono (by simp)).trans (F49.mono (by simp))) (fun t ht => by rw [bFx_n F49 (by simp)]; exact hA t (by omega) ht) (fun i hi => by rw [E49 i hi, bFx_n hF (by simp; omega)]))
    · omega
  | succ jj ih =>
    intro t w hp hw hj hH hF hA
    have q1 := rb_c hH (c := 3) (by decide) (bTT3) (f := 1) rfl (by decide)
    have f2 := (hF s 2 (by simp)).trans F2.1
    have f3 := (hF s 3 (by simp)).trans F2.2
    have e1 : rN hp 3 1 = rN hp0 3 1 := bFx_n hF (by simp; omega)
    refine xild 19 ⟨u89, _, rfl⟩ rfl rfl ?_
    refine xald 20 ⟨u89, _, rfl⟩ rfl rfl ?_
    refine xgetF 23 (s + 1) hH ⟨u89, _, rfl⟩ rfl (sn_lt hs) (by decide) (sn_T hs) (f2) ?_
    refine xlen 24 hH ⟨u89, _, rfl⟩ rfl (sn_lt1 hs) (sn_T1 hs) (by decide) (by decide) (fun z23 h23 => ?_)
    refine xcmp_ge 27 ⟨u89, _, rfl⟩ rfl (fun c24 => ?_) (fun c24 => ?_)
    · omega
    · refine xald 28 ⟨u89, _, rfl⟩ rfl rfl ?_
      refine xgetF 31 (s + 1) hH ⟨u89, _, rfl⟩ rfl (sn_lt hs) (by decide) (sn_T hs) (f2) ?_
      refine xild 32 ⟨u89, _, rfl⟩ rfl rfl ?_
      refine xald 33 ⟨u89, _, rfl⟩ rfl rfl ?_
      refine xild 34 ⟨u89, _, rfl⟩ rfl rfl ?_
      refine xcallC 37 (o := 3) [.int _] [.int _, .ref (s + 1)] hH ⟨u89, _, rfl⟩ rfl rfl (by decide) rfl (by decide) rfl ⟨rfl, rfl, rfl, rfl⟩ (by simp [amOkS, amOk, sn_lt1 hs]) (k_set (o := 3) (Or.inl rfl) hH (fun z34 h34 => ⟨_, rfl, ?_⟩))
      have bm34 := aMin z34
      have bx34 := aMax z34
      refine xiast 38 (w).toInt.toNat hH ⟨u89, _, rfl⟩ rfl (sn_lt1 hs) (sn_T1 hs) (by omega) (by omega) (by omega) (by omega) (fun hp37 hH37 U37 => ?_)
      have s37 := U37.1
      refine xinc 41 (1) ⟨u89, _, rfl⟩ rfl rfl rfl (by decide) (by omega) (by omega) (fun z38 h38 => ?_)
      refine xgoto ⟨u89, _, rfl⟩ ?_
      exact ih (t + 1) _ hp37 (by omega) (by omega) hH37 (hF.trans (bFx_U U37 (by simp))) (fun j hj2 hj3 => by
        by_cases g : j = t
        · subst g
          have := U37.1
          rw [show w.toInt.toNat = j by omega] at this h34
          rw [this, h34, if_pos (by omega), bFx_n hF (by simp; omega)]
        · rw [rU_ne U37 (by omega)]
          exact hA j (by omega) hj3)
/-- a system kept -/
theorem k_keep {d : Nat} {hp : amH} {R : xQ} {s V : Nat} {T : sT} (hs : sn s) (F2 : snF hp s) (hH : bHk 84 bTT hp) (hB : bdOk hp 3 V T) (hL : lsN hp 3 T 225)
    (hR : ∀ hp1, bHk 84 bTT hp1 → bFx [s, s + 1, s + 2] hp hp1 → snF hp1 s → snOk hp1 s (V, T, rN hp 13) → R (.inl none) hp1) : xK (d + 1) 89 [.ref s, .ref 3, .ref 13] hp R := by
  have c := sn_c hs
  have bV := hB.1
  have hV := hB.2.1.2.1
  have b1 := rb_c hH (c := 3) (by decide) (bTT3) (f := 1) rfl (by decide)
  refine xin (M := am_m89) rfl rfl (by unfold xAv; simp [amOk, sn_lt hs, Value.category]) ?_
  refine xald 1 ⟨u89, _, rfl⟩ rfl rfl ?_
  refine xald 2 ⟨u89, _, rfl⟩ rfl rfl ?_
  refine xgetC 5 hH ⟨u89, _, rfl⟩ rfl (by decide) (by decide) rfl rfl (by decide) (fun z2 h2 => ?_)
  refine xputC 8 hH ⟨u89, _, rfl⟩ rfl (sn_lt hs) (by decide) (sn_T hs) rfl (by decide) ⟨rfl, rfl⟩ (by omega) (by omega) (fun hp5 hH5 U5 => ?_)
  have s5 := U5.1
  have n5_3_0 : rN hp5 (3) 0 = rN hp (3) 0 := rU_ne U5 (by omega)
  have n5_3_1 : rN hp5 (3) 1 = rN hp (3) 1 := rU_ne U5 (by omega)
  refine xald 9 ⟨u89, _, rfl⟩ rfl rfl ?_
  refine xald 10 ⟨u89, _, rfl⟩ rfl rfl ?_
  refine xgetC 13 hH5 ⟨u89, _, rfl⟩ rfl (by decide) (by decide) rfl rfl (by decide) (fun z10 h10 => ?_)
  refine xputC 16 hH5 ⟨u89, _, rfl⟩ rfl (sn_lt hs) (by decide) (sn_T hs) rfl (by decide) ⟨rfl, rfl⟩ (by omega) (by omega) (fun hp13 hH13 U13 => ?_)
  have s13 := U13.1
  have n13_3_0 : rN hp13 (3) 0 = rN hp5 (3) 0 := rU_ne U13 (by omega)
  have n13_3_1 : rN hp13 (3) 1 = rN hp5 (3) 1 := rU_ne U13 (by omega)
  refine xcst 17 (0) ⟨u89, _, rfl⟩ rfl (by decide) (fun z16 h16 => ?_)
  refine xist 18 ⟨u89, _, rfl⟩ rfl rfl ?_
  have F13 : bFx [s] hp hp13 := (bFx_U U5 (by simp)).trans (bFx_U U13 (by simp))
  have g2 : snF hp13 s := ⟨((U13.2 s 2 (by omega)).trans (U5.2 s 2 (by omega))).trans F2.1, ((U13.2 s 3 (by omega)).trans (U5.2 s 3 (by omega))).trans F2.2⟩
  exact l89 (b := 13) hs (Or.inl rfl) (by omega) (by omega) g2 (fun hp1 k1 k2 k3 k4 => hR hp1 k1 ((F13.mono (by simp)).trans (k2.mono (by simp))) ⟨(k2 s 2 (by simp)).trans g2.1, (k2 s 3 (by simp)).trans g2.2⟩ ⟨by rw [bFx_n k2 (by simp)]; have u5 := U5.1; have := rU_ne U13 (c1 := s) (i1 := 0) (by omega); show rN hp13 s 0 = (V : Int); omega, hB.2.1, hB.2.2.2.1, by rw [bFx_n k2 (by simp), U13.1, h10, rU_ne U5 (by omega)]; exact hL.1, fun t ht => by
    have ht : t < (trL T 225).length := ht
    have l1 := hL.1
    have l2 := hL.2.1 t ht
    rw [k3 t (by rw [bFx_n F13 (by simp; omega)]; omega), bFx_n F13 (by simp; omega)]
    exact l2, fun i hi => by rw [k4 i hi, bFx_n F13 (by simp; omega)]⟩) 35 0 _ hp13 (by omega) (by omega) hH13 bFx.refl (fun j hj => absurd hj (Nat.not_lt_zero j))
