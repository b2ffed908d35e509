/-! ##### 19.m.034.31a ##### -/
section
/-! ===== systems with their tallies, what was; snapshots ===== -/
/-- a system: how many points, the third points, the tally -/
abbrev sR : Type := Nat × sT × (Nat → Int)
noncomputable def rowOk (r : Nat → Int) (q : sR) : Prop := r 0 = (q.1 : Int) ∧ sOk q.1 q.2.1 ∧ (∀ u v, u < 15 → v < 15 → r (4 + 15 * u + v) = q.2.1 u v) ∧ (∀ u v, ¬ (u < 15 ∧ v < 15) → q.2.1 u v = -1) ∧ ∀ i, i < 3 → r (i + 1) = q.2.2 i
theorem bY_bx {W : List Nat} {hp hp1 : amH} {c i : Nat} {v : Value} (U : rV hp hp1 c i v) (h : c ∈ W) : bFx W hp hp1 := fun c1 k e => U.2 c1 k (fun z => e (by rw [z.1]; exact h))
/-- a snapshot's cell -/
noncomputable def sn (s : Nat) : Prop := s ∈ [16, 19, 22, 25, 28, 31, 34, 37, 40, 43, 46]
theorem sn_c {s : Nat} (h : sn s) : s = 16 ∨ s = 19 ∨ s = 22 ∨ s = 25 ∨ s = 28 ∨ s = 31 ∨ s = 34 ∨ s = 37 ∨ s = 40 ∨ s = 43 ∨ s = 46 := by
  unfold sn at h
  simpa using h
theorem sn_T {s : Nat} (h : sn s) : bTT s = some (6, 4, [.inl (2147483648, 2147483663), .inl (2147483648, 2147483683), .inr (.inr [17, 20, 23, 26, 29, 32, 35, 38, 41, 44, 47]), .inr (.inr [18, 21, 24, 27, 30, 33, 36, 39, 42, 45, 48])]) := by rcases sn_c h with rfl | rfl | rfl | rfl | rfl | rfl | rfl | rfl | rfl | rfl | rfl <;> rfl
theorem sn_T1 {s : Nat} (h : sn s) : bTT (s + 1) = some (32, 35, [.inl (0, 4294967295)]) := by rcases sn_c h with rfl | rfl | rfl | rfl | rfl | rfl | rfl | rfl | rfl | rfl | rfl <;> rfl
theorem sn_T2 {s : Nat} (h : sn s) : bTT (s + 2) = some (7, 3, [.inl (0, 4294967295), .inl (0, 4294967295), .inl (0, 4294967295)]) := by rcases sn_c h with rfl | rfl | rfl | rfl | rfl | rfl | rfl | rfl | rfl | rfl | rfl <;> rfl
theorem sn_lt {s : Nat} (h : sn s) : s < 84 := by have := sn_c h; omega
theorem sn_lt1 {s : Nat} (h : sn s) : s + 1 < 84 := by have := sn_c h; omega
theorem sn_lt2 {s : Nat} (h : sn s) : s + 2 < 84 := by have := sn_c h; omega
/-- a tally's cell -/
noncomputable def ta (a : Nat) : Prop := a = 13 ∨ ∃ s, sn s ∧ a = s + 2
theorem ta_T {a : Nat} (h : ta a) : bTT a = some (7, 3, [.inl (0, 4294967295), .inl (0, 4294967295), .inl (0, 4294967295)]) := by
  rcases h with rfl | ⟨s, h, rfl⟩
  · rfl
  · exact sn_T2 h
theorem ta_lt {a : Nat} (h : ta a) : a < 84 := by
  rcases h with rfl | ⟨s, h, rfl⟩
  · decide
  · exact sn_lt2 h
/-- a snapshot holds its row and its tally -/
noncomputable def snF (hp : amH) (s : Nat) : Prop := bFld hp s 2 = some (.ref (s + 1)) ∧ bFld hp s 3 = some (.ref (s + 2))
/-- a snapshot of a system -/
noncomputable def snOk (hp : amH) (s : Nat) (q : sR) : Prop := rN hp s 0 = (q.1 : Int) ∧ sOk q.1 q.2.1 ∧ (∀ u v, ¬ (u < 15 ∧ v < 15) → q.2.1 u v = -1) ∧ rN hp s 1 = (((trL q.2.1 225).length : Nat) : Int) ∧ (∀ t, t < (trL q.2.1 225).length → rN hp (s + 1) t = ((mk3 q.2.1 ((trL q.2.1 225).getD t 0) : Nat) : Int)) ∧ ∀ i, i < 3 → rN hp (s + 2) i = q.2.2 i
theorem snOk_fr {hp hp1 : amH} {s : Nat} {q : sR} (h : snOk hp s q) (F : ∀ c, s ≤ c → c ≤ s + 2 → ∀ k, bFld hp1 c k = bFld hp c k) : snOk hp1 s q := by
  obtain ⟨h1, h2, h3, h4, h5, h6⟩ := h
  have e : ∀ c, s ≤ c → c ≤ s + 2 → ∀ k, rN hp1 c k = rN hp c k := fun c c1 c2 k => rN_eq (F c c1 c2 k)
  exact ⟨by rw [e s (by omega) (by omega)]; exact h1, h2, h3, by rw [e s (by omega) (by omega)]; exact h4, fun t ht => by rw [e _ (by omega) (by omega)]; exact h5 t ht, fun i hi => by rw [e _ (by omega) (by omega)]; exact h6 i hi⟩
theorem u9 : bUp 0 am_m9.1 = true := by decide +kernel
theorem u50 : bUp 0 am_m50.1 = true := by decide +kernel
theorem u51 : bUp 0 am_m51.1 = true := by decide +kernel
theorem u52 : bUp 0 am_m52.1 = true := by decide +kernel
theorem u53 : bUp 0 am_m53.1 = true := by decide +kernel
theorem u54 : bUp 0 am_m54.1 = true := by decide +kernel
theorem u89 : bUp 0 am_m89.1 = true := by decide +kernel
theorem u90 : bUp 0 am_m90.1 = true := by decide +kernel
theorem u93 : bUp 0 am_m93.1 = true := by decide +kernel
theorem u184 : bUp 0 am_m184.1 = true := by decide +kernel
theorem k_tyc {d : Nat} {hp : amH} {R : xQ} {a b : Nat} (ha : ta a) (hb : ta b) (hne : ¬ a = b) (hH : bHk 84 bTT hp) (hR : ∀ hp1, bHk 84 bTT hp1 → bFx [a] hp hp1 → (∀ i, i < 3 → rN hp1 a i = rN hp b i) → R (.inl none) hp1) : xK d 93 [.ref a, .ref b] hp R := by
  refine xin (M := am_m93) rfl rfl (by unfold xAv; simp [amOk, ta_lt ha, ta_lt hb, Value.category]) ?_
  refine xald 1 ⟨u93, _, rfl⟩ rfl rfl ?_
  refine xald 2 ⟨u93, _, rfl⟩ rfl rfl ?_
  refine xgetC 5 hH ⟨u93, _, rfl⟩ rfl (ta_lt hb) (by decide) (ta_T hb) rfl (by decide) (fun z2 h2 => ?_)
  have bm2 := aMin z2
  have bx2 := aMax z2
  refine xputC 8 hH ⟨u93, _, rfl⟩ rfl (ta_lt ha) (by decide) (ta_T ha) rfl (by decide) ⟨rfl, rfl⟩ (by omega) (by omega) (fun hp5 hH5 U5 => ?_)
  have s5 := U5.1
  have n5_a_1 : rN hp5 (a) 1 = rN hp (a) 1 := rU_ne U5 (by first | decide | exact (fun z => absurd z.1 (by decide)) | omega)
  have n5_a_2 : rN hp5 (a) 2 = rN hp (a) 2 := rU_ne U5 (by first | decide | exact (fun z => absurd z.1 (by decide)) | omega)
  have n5_b_0 : rN hp5 (b) 0 = rN hp (b) 0 := rU_ne U5 (by first | decide | exact (fun z => absurd z.1 (by decide)) | omega)
  have n5_b_1 : rN hp5 (b) 1 = rN hp (b) 1 := rU_ne U5 (by first | decide | exact (fun z => absurd z.1 (by decide)) | omega)
  have n5_b_2 : rN hp5 (b) 2 = rN hp (b) 2 := rU_ne U5 (by first | decide | exact (fun z => absurd z.1 (by decide)) | omega)
  refine xald 9 ⟨u93, _, rfl⟩ rfl rfl ?_
  refine xald 10 ⟨u93, _, rfl⟩ rfl rfl ?_
  refine xgetC 13 hH5 ⟨u93, _, rfl⟩ rfl (ta_lt hb) (by decide) (ta_T hb) rfl (by decide) (fun z10 h10 => ?_)
  have bm10 := aMin z10
  have bx10 := aMax z10
  refine xputC 16 hH5 ⟨u93, _, rfl⟩ rfl (ta_lt ha) (by decide) (ta_T ha) rfl (by decide) ⟨rfl, rfl⟩ (by omega) (by omega) (fun hp13 hH13 U13 => ?_)
  have s13 := U13.1
  have n13_a_0 : rN hp13 (a) 0 = rN hp5 (a) 0 := rU_ne U13 (by first | decide | exact (fun z => absurd z.1 (by decide)) | omega)
  have n13_a_2 : rN hp13 (a) 2 = rN hp5 (a) 2 := rU_ne U13 (by first | decide | exact (fun z => absurd z.1 (by decide)) | omega)
  have n13_b_0 : rN hp13 (b) 0 = rN hp5 (b) 0 := rU_ne U13 (by first | decide | exact (fun z => absurd z.1 (by decide)) | omega)
  have n13_b_1 : rN hp13 (b) 1 = rN hp5 (b) 1 := rU_ne U13 (by first | decide | exact (fun z => absurd z.1 (by decide)) | omega)
  have n13_b_2 : rN hp13 (b) 2 = rN hp5 (b) 2 := rU_ne U13 (by first | decide | exact (fun z => absurd z.1 (by decide)) | omega)
  refine xald 17 ⟨u93, _, rfl⟩ rfl rfl ?_
  refine xald 18 ⟨u93, _, rfl⟩ rfl rfl ?_
  refine xgetC 21 hH13 ⟨u93, _, rfl⟩ rfl (ta_lt hb) (by decide) (ta_T hb) rfl (by decide) (fun z18 h18 => ?_)
  have bm18 := aMin z18
  have bx18 := aMax z18
  refine xputC 24 hH13 ⟨u93, _, rfl⟩ rfl (ta_lt ha) (by decide) (ta_T ha) rfl (by decide) ⟨rfl, rfl⟩ (by omega) (by omega) (fun hp21 hH21 U21 => ?_)
  have s21 := U21.1
  have n21_a_0 : rN hp21 (a) 0 = rN hp13 (a) 0 := rU_ne U21 (by first | decide | exact (fun z => absurd z.1 (by decide)) | omega)
  have n21_a_1 : rN hp21 (a) 1 = rN hp13 (a) 1 := rU_ne U21 (by first | decide | exact (fun z => absurd z.1 (by decide)) | omega)
  have n21_b_0 : rN hp21 (b) 0 = rN hp13 (b) 0 := rU_ne U21 (by first | decide | exact (fun z => absurd z.1 (by decide)) | omega)
  have n21_b_1 : rN hp21 (b) 1 = rN hp13 (b) 1 := rU_ne U21 (by first | decide | exact (fun z => absurd z.1 (by decide)) | omega)
  have n21_b_2 : rN hp21 (b) 2 = rN hp13 (b) 2 := rU_ne U21 (by first | decide | exact (fun z => absurd z.1 (by decide)) | omega)
  exact xretV ⟨u93, _, rfl⟩ rfl (hR _ hH21 (((bFx_U U5 (by simp)).trans (bFx_U U13 (by simp))).trans (bFx_U U21 (by simp))) (fun i hi => by rcases (by omega : i = 0 ∨ i = 1 ∨ i = 2) with rfl | rfl | rfl <;> omega))
/-- the set of a triple of the board -/
theorem k_set {d : Nat} {hp : amH} {R : xQ} {o : Nat} {a : Int32} (ho : bo o) (hH : bHk 84 bTT hp) (hR : ∀ z : Int32, z.toInt = (if 0 ≤ a.toInt ∧ a.toInt < rN hp o 1 then rN hp (o + 4) a.toInt.toNat else 0) → R (.inl (some (.int z))) hp) : xK d 9 [.ref o, .int a] hp R := by
  have q1 := rb_c hH (bo_lt ho) (bo_T ho) (f := 1) rfl (by decide)
  refine xin (M := am_m9) rfl rfl (by unfold xAv; simp [amOk, bo_lt ho, Value.category]) ?_
  refine xild 1 ⟨u9, _, rfl⟩ rfl rfl ?_
  refine xif_lt 4 ⟨u9, _, rfl⟩ rfl (fun c1 => ?_) (fun c1 => ?_)
  · refine xcst 22 (0) ⟨u9, _, rfl⟩ rfl (by decide) (fun z21 h21 => ?_)
    exact xret ⟨u9, _, rfl⟩ rfl (hR _ (by rw [if_neg (by omega)]; exact h21))
  · refine xild 5 ⟨u9, _, rfl⟩ rfl rfl ?_
    refine xald 6 ⟨u9, _, rfl⟩ rfl rfl ?_
    refine xgetC 9 hH ⟨u9, _, rfl⟩ rfl (bo_lt ho) (by decide) (bo_T ho) rfl (by decide) (fun z6 h6 => ?_)
    refine xcmp_ge 12 ⟨u9, _, rfl⟩ rfl (fun c9 => ?_) (fun c9 => ?_)
    · refine xcst 22 (0) ⟨u9, _, rfl⟩ rfl (by decide) (fun z21 h21 => ?_)
      exact xret ⟨u9, _, rfl⟩ rfl (hR _ (by rw [if_neg (by omega)]; exact h21))
    · refine xald 13 ⟨u9, _, rfl⟩ rfl rfl ?_
      refine xgetD 16 (o + 4) hH ⟨u9, _, rfl⟩ rfl (bo_lt ho) (by decide) (bo_T ho) rfl (by decide) ?_
      refine xild 17 ⟨u9, _, rfl⟩ rfl rfl ?_
      refine xiald 18 (a).toInt.toNat hH ⟨u9, _, rfl⟩ rfl (bo_lt4 ho) (bo_T4 ho) (by omega) (by omega) (fun z17 h17 => ?_)
      refine xgoto ⟨u9, _, rfl⟩ ?_
      exact xret ⟨u9, _, rfl⟩ rfl (hR _ (by rw [if_pos (by omega)]; exact h17))
theorem bTT3 : bTT 3 = some (0, 6, [.inl (2147483648, 2147483663), .inl (2147483648, 2147483683), .inr (.inr [4]), .inr (.inr [5]), .inr (.inr [6]), .inr (.inr [7])]) := rfl
theorem l89 {d : Nat} {hp0 : amH} {R : xQ} {s b : Nat} (hs : sn s) (hb : ta b) (hne : ¬ s + 2 = b) (hne1 : ¬ b = s + 1) (F2 : snF hp0 s)
    (hR : ∀ hp1, bHk 84 bTT hp1 → bFx [s + 1, s + 2] hp0 hp1 → (∀ t : Nat, (t : Int) < rN hp0 3 1 → rN hp1 (s + 1) t = rN hp0 7 t) → (∀ i, i < 3 → rN hp1 (s + 2) i = rN hp0 b i) → R (.inl none) hp1) :
    ∀ (jj t : Nat) (w : Int32) (hp : amH), w.toInt = (t : Int) → t + jj = 35 → bHk 84 bTT hp → bFx [s + 1] hp0 hp → (∀ j, j < t → (j : Int) < rN hp0 3 1 → rN hp (s + 1) j = rN hp0 7 j) → xV (d + 1) am_m89 18 [some (.ref s), some (.ref 3), some (.ref b), some (.int w)] [] hp R := by
  have c := sn_c hs
  intro jj
  induction jj with
  | zero =>
    intro t w hp hw hj hH hF hA
    have q1 := rb_c hH (c := 3) (by decide) (bTT3) (f := 1) rfl (by decide)
    have f2 := (hF s 2 (by simp)).trans F2.1
    have f3 := (hF s 3 (by simp)).trans F2.2
    have e1 : rN hp 3 1 = rN hp0 3 1 := bFx_n hF (by simp; omega)
    refine xild 19 ⟨u89, _, rfl⟩ rfl rfl ?_
    refine xald 20 ⟨u89, _, rfl⟩ rfl rfl ?_
    refine xgetF 23 (s + 1) hH ⟨u89, _, rfl⟩ rfl (sn_lt hs) (by decide) (sn_T hs) (f2) ?_
    refine xlen 24 hH ⟨u89, _, rfl⟩ rfl (sn_lt1 hs) (sn_T1 hs) (by decide) (by decide) (fun z23 h23 => ?_)
    refine xcmp_ge 27 ⟨u89, _, rfl⟩ rfl (fun c24 => ?_) (fun c24 => ?_)
    · refine xald 45 ⟨u89, _, rfl⟩ rfl rfl ?_
      refine xgetF 48 (s + 2) hH ⟨u89, _, rfl⟩ rfl (sn_lt hs) (by decide) (sn_T hs) (f3) ?_
      refine xald 49 ⟨u89, _, rfl⟩ rfl rfl ?_
      refine xcallC 52 (o := s + 2) [.ref (b)] [] hH ⟨u89, _, rfl⟩ rfl rfl (sn_lt2 hs) (sn_T2 hs) (by decide) rfl ⟨rfl, rfl, rfl, rfl⟩ rfl (k_tyc (Or.inr ⟨s, hs, rfl⟩) hb hne hH (fun hp49 hH49 F49 E49 => ⟨_, rfl, ?_⟩))
      exact xretV ⟨u89, _, rfl⟩ rfl (hR _ hH49 ((hF.mono (by simp)).trans (F49.mono (by simp))) (fun t ht => by rw [bFx_n F49 (by simp)]; exact hA t (by omega) ht) (fun i hi => by rw [E49 i hi, bFx_n hF (by simp; omega)]))
    · omega
  | succ jj ih =>
    intro t w hp hw hj hH hF hA
    have q1 := rb_c hH (c := 3) (by decide) (bTT3) (f := 1) rfl (by decide)
    have f2 := (hF s 2 (by simp)).trans F2.1
    have f3 := (hF s 3 (by simp)).trans F2.2
    have e1 : rN hp 3 1 = rN hp0 3 1 := bFx_n hF (by simp; omega)
    refine xild 19 ⟨u89, _, rfl⟩ rfl rfl ?_
    refine xald 20 ⟨u89, _, rfl⟩ rfl rfl ?_
    refine xgetF 23 (s + 1) hH ⟨u89, _, rfl⟩ rfl (sn_lt hs) (by decide) (sn_T hs) (f2) ?_
    refine xlen 24 hH ⟨u89, _, rfl⟩ rfl (sn_lt1 hs) (sn_T1 hs) (by decide) (by decide) (fun z23 h23 => ?_)
    refine xcmp_ge 27 ⟨u89, _, rfl⟩ rfl (fun c24 => ?_) (fun c24 => ?_)
    · omega
    · refine xald 28 ⟨u89, _, rfl⟩ rfl rfl ?_
      refine xgetF 31 (s + 1) hH ⟨u89, _, rfl⟩ rfl (sn_lt hs) (by decide) (sn_T hs) (f2) ?_
      refine xild 32 ⟨u89, _, rfl⟩ rfl rfl ?_
      refine xald 33 ⟨u89, _, rfl⟩ rfl rfl ?_
      refine xild 34 ⟨u89, _, rfl⟩ rfl rfl ?_
      refine xcallC 37 (o := 3) [.int _] [.int _, .ref (s + 1)] hH ⟨u89, _, rfl⟩ rfl rfl (by decide) rfl (by decide) rfl ⟨rfl, rfl, rfl, rfl⟩ (by simp [amOkS, amOk, sn_lt1 hs]) (k_set (o := 3) (Or.inl rfl) hH (fun z34 h34 => ⟨_, rfl, ?_⟩))
      have bm34 := aMin z34
      have bx34 := aMax z34
      refine xiast 38 (w).toInt.toNat hH ⟨u89, _, rfl⟩ rfl (sn_lt1 hs) (sn_T1 hs) (by omega) (by omega) (by omega) (by omega) (fun hp37 hH37 U37 => ?_)
      have s37 := U37.1
      refine xinc 41 (1) ⟨u89, _, rfl⟩ rfl rfl rfl (by decide) (by omega) (by omega) (fun z38 h38 => ?_)
      refine xgoto ⟨u89, _, rfl⟩ ?_
      exact ih (t + 1) _ hp37 (by omega) (by omega) hH37 (hF.trans (bFx_U U37 (by simp))) (fun j hj2 hj3 => by
        by_cases g : j = t
        · subst g
          have := U37.1
          rw [show w.toInt.toNat = j by omega] at this h34
          rw [this, h34, if_pos (by omega), bFx_n hF (by simp; omega)]
        · rw [rU_ne U37 (by first | decide | exact (fun z => absurd z.1 (by decide)) | omega)]
          exact hA j (by omega) hj3)
/-- a system kept -/
theorem k_keep {d : Nat} {hp : amH} {R : xQ} {s V : Nat} {T : sT} (hs : sn s) (F2 : snF hp s) (hH : bHk 84 bTT hp) (hB : bdOk hp 3 V T) (hL : lsN hp 3 T 225)
    (hR : ∀ hp1, bHk 84 bTT hp1 → bFx [s, s + 1, s + 2] hp hp1 → snF hp1 s → snOk hp1 s (V, T, rN hp 13) → R (.inl none) hp1) : xK (d + 1) 89 [.ref s, .ref 3, .ref 13] hp R := by
  have c := sn_c hs
  have bV := hB.1
  have hV := hB.2.1.2.1
  have b1 := rb_c hH (c := 3) (by decide) (bTT3) (f := 1) rfl (by decide)
  refine xin (M := am_m89) rfl rfl (by unfold xAv; simp [amOk, sn_lt hs, Value.category]) ?_
  refine xald 1 ⟨u89, _, rfl⟩ rfl rfl ?_
  refine xald 2 ⟨u89, _, rfl⟩ rfl rfl ?_
  refine xgetC 5 hH ⟨u89, _, rfl⟩ rfl (by decide) (by decide) rfl rfl (by decide) (fun z2 h2 => ?_)
  refine xputC 8 hH ⟨u89, _, rfl⟩ rfl (sn_lt hs) (by decide) (sn_T hs) rfl (by decide) ⟨rfl, rfl⟩ (by omega) (by omega) (fun hp5 hH5 U5 => ?_)
  have s5 := U5.1
  have n5_3_0 : rN hp5 (3) 0 = rN hp (3) 0 := rU_ne U5 (by first | decide | exact (fun z => absurd z.1 (by decide)) | omega)
  have n5_3_1 : rN hp5 (3) 1 = rN hp (3) 1 := rU_ne U5 (by first | decide | exact (fun z => absurd z.1 (by decide)) | omega)
  refine xald 9 ⟨u89, _, rfl⟩ rfl rfl ?_
  refine xald 10 ⟨u89, _, rfl⟩ rfl rfl ?_
  refine xgetC 13 hH5 ⟨u89, _, rfl⟩ rfl (by decide) (by decide) rfl rfl (by decide) (fun z10 h10 => ?_)
  refine xputC 16 hH5 ⟨u89, _, rfl⟩ rfl (sn_lt hs) (by decide) (sn_T hs) rfl (by decide) ⟨rfl, rfl⟩ (by omega) (by omega) (fun hp13 hH13 U13 => ?_)
  have s13 := U13.1
  have n13_3_0 : rN hp13 (3) 0 = rN hp5 (3) 0 := rU_ne U13 (by first | decide | exact (fun z => absurd z.1 (by decide)) | omega)
  have n13_3_1 : rN hp13 (3) 1 = rN hp5 (3) 1 := rU_ne U13 (by first | decide | exact (fun z => absurd z.1 (by decide)) | omega)
  refine xcst 17 (0) ⟨u89, _, rfl⟩ rfl (by decide) (fun z16 h16 => ?_)
  refine xist 18 ⟨u89, _, rfl⟩ rfl rfl ?_
  have F13 : bFx [s] hp hp13 := (bFx_U U5 (by simp)).trans (bFx_U U13 (by simp))
  have g2 : snF hp13 s := ⟨((U13.2 s 2 (by omega)).trans (U5.2 s 2 (by omega))).trans F2.1, ((U13.2 s 3 (by omega)).trans (U5.2 s 3 (by omega))).trans F2.2⟩
  exact l89 (b := 13) hs (Or.inl rfl) (by omega) (by omega) g2 (fun hp1 k1 k2 k3 k4 => hR hp1 k1 ((F13.mono (by simp)).trans (k2.mono (by simp))) ⟨(k2 s 2 (by simp)).trans g2.1, (k2 s 3 (by simp)).trans g2.2⟩ ⟨by rw [bFx_n k2 (by simp)]; have u5 := U5.1; have := rU_ne U13 (c1 := s) (i1 := 0) (by omega); show rN hp13 s 0 = (V : Int); omega, hB.2.1, hB.2.2.2.1, by rw [bFx_n k2 (by simp), U13.1, h10, rU_ne U5 (by first | decide | exact (fun z => absurd z.1 (by decide)) | omega)]; exact hL.1, fun t ht => by
    have ht : t < (trL T 225).length := ht
    have l1 := hL.1
    have l2 := hL.2.1 t ht
    rw [k3 t (by rw [bFx_n F13 (by simp; omega)]; omega), bFx_n F13 (by simp; omega)]
    exact l2, fun i hi => by rw [k4 i hi, bFx_n F13 (by simp; omega)]⟩) 35 0 _ hp13 (by omega) (by omega) hH13 bFx.refl (fun j hj => absurd hj (Nat.not_lt_zero j))
end
/-! ##### 19.m.035.31b ##### -/
section
/-! ===== the class keeps what was ===== -/
theorem sn_mod {s : Nat} (h : sn s) : s % 3 = 1 ∧ 16 ≤ s ∧ s ≤ 46 := by have := sn_c h; omega
theorem sn_is {hp : amH} {s : Nat} (hH : bHk 84 bTT hp) (h : sn s) : amIsSn hp (.ref s) = true := by
  obtain ⟨vs, g1, -⟩ := x_row2 hH (sn_lt h) (sn_T h)
  simp [amIsSn, g1]
theorem sn_bY {s : Nat} (h : sn s) : bYr 84 (.inr (.inr [16, 19, 22, 25, 28, 31, 34, 37, 40, 43, 46])) (.ref s) := ⟨s, rfl, sn_lt h, h⟩
/-- what the class keeps: how many, which; the saved one -/
noncomputable def hyS (hp : amH) (sv : Option sR) : Prop := match sv with
  | none => rN hp 14 3 = 0
  | some q => rN hp 14 3 = 1 ∧ snOk hp 16 q
noncomputable def hyA (hp : amH) (f : Nat → Nat) : Prop := (∀ k, k < 10 → sn (f k) ∧ ¬ f k = 16 ∧ bFld hp 15 k = some (.ref (f k))) ∧ ∀ j k, j < 10 → k < 10 → f j = f k → j = k
noncomputable def hyC (hp : amH) (n : Nat) (h : Nat → sR) (sv : Option sR) : Prop := rN hp 14 0 = (n : Int) ∧ n ≤ 10 ∧ (∀ s, sn s → snF hp s) ∧ (∃ f, hyA hp f ∧ ∀ k, k < n → snOk hp (f k) (h k)) ∧ hyS hp sv
noncomputable def hyF (hp hp1 : amH) : Prop := ∀ c k, ¬ (14 ≤ c ∧ c ≤ 48) → bFld hp1 c k = bFld hp c k
theorem hyF.trans {a b c : amH} (h1 : hyF a b) (h2 : hyF b c) : hyF a c := fun i k e => (h2 i k e).trans (h1 i k e)
theorem hyF_n {hp hp1 : amH} (h : hyF hp hp1) {c k : Nat} (e : ¬ (14 ≤ c ∧ c ≤ 48)) : rN hp1 c k = rN hp c k := rN_eq (h c k e)
theorem hyF_V {hp hp1 : amH} {c i : Nat} {v : Value} (U : rV hp hp1 c i v) (h : 14 ≤ c ∧ c ≤ 48) : hyF hp hp1 := fun c1 k e => U.2 c1 k (fun z => e (by rw [z.1]; exact h))
theorem hyF_U {hp hp1 : amH} {c i : Nat} {m : Int} (U : rU hp hp1 c i m) (h : 14 ≤ c ∧ c ≤ 48) : hyF hp hp1 := fun c1 k e => U.2 c1 k (fun z => e (by rw [z.1]; exact h))
theorem hyF_x {W : List Nat} {hp hp1 : amH} (F : bFx W hp hp1) (h : ∀ c, c ∈ W → 14 ≤ c ∧ c ≤ 48) : hyF hp hp1 := fun c1 k e => F c1 k (fun z => e (h c1 z))
/-- the first row goes to the end -/
theorem l51 {d : Nat} {hp0 : amH} {R : xQ} {f : Nat → Nat} (hA : hyA hp0 f)
    (hR : ∀ hp1, bHk 84 bTT hp1 → hyF hp0 hp1 → (∀ c k, ¬ c = 15 → ¬ (c = 14 ∧ k = 0) → bFld hp1 c k = bFld hp0 c k) → rN hp1 14 0 = 9 → (∀ k, k < 9 → bFld hp1 15 k = some (.ref (f (k + 1)))) → bFld hp1 15 9 = some (.ref (f 0)) → R (.inl none) hp1) :
    ∀ (jj t : Nat) (w : Int32) (hp : amH), w.toInt = (t : Int) → 1 ≤ t → t + jj = 10 → bHk 84 bTT hp → (∀ c k, ¬ c = 15 → bFld hp c k = bFld hp0 c k) → (∀ k, k + 1 < t → bFld hp 15 k = some (.ref (f (k + 1)))) → (∀ k, t ≤ k + 1 → k < 10 → bFld hp 15 k = some (.ref (f k))) → xV d am_m51 9 [some (.ref 14), some (.ref (f 0)), some (.int w)] [] hp R := by
  intro jj
  induction jj with
  | zero =>
    intro t w hp hw ht hj hH hF h1 h2
    refine xild 10 ⟨u51, _, rfl⟩ rfl rfl ?_
    refine xald 11 ⟨u51, _, rfl⟩ rfl rfl ?_
    refine xgetD 14 (15) hH ⟨u51, _, rfl⟩ rfl (by decide) (by decide) rfl rfl (by decide) ?_
    refine xlen 15 hH ⟨u51, _, rfl⟩ rfl (by decide) rfl (by decide) (by decide) (fun z14 h14 => ?_)
    refine xcmp_ge 18 ⟨u51, _, rfl⟩ rfl (fun c15 => ?_) (fun c15 => ?_)
    · refine xald 39 ⟨u51, _, rfl⟩ rfl rfl ?_
      refine xgetD 42 (15) hH ⟨u51, _, rfl⟩ rfl (by decide) (by decide) rfl rfl (by decide) ?_
      refine xald 43 ⟨u51, _, rfl⟩ rfl rfl ?_
      refine xgetD 46 (15) hH ⟨u51, _, rfl⟩ rfl (by decide) (by decide) rfl rfl (by decide) ?_
      refine xlen 47 hH ⟨u51, _, rfl⟩ rfl (by decide) rfl (by decide) (by decide) (fun z46 h46 => ?_)
      refine xcst 48 (1) ⟨u51, _, rfl⟩ rfl (by decide) (fun z47 h47 => ?_)
      refine xsub 49 _ ⟨u51, _, rfl⟩ rfl rfl (by omega) (by omega) (fun z48 h48 => ?_)
      refine xald 50 ⟨u51, _, rfl⟩ rfl rfl ?_
      refine xaast 51 (9) (f 0) hH ⟨u51, _, rfl⟩ rfl (by decide) rfl (by omega) (by omega) rfl (sn_bY (hA.1 0 (by omega)).1) (sn_is hH (hA.1 0 (by omega)).1) (fun hp50 hH50 U50 => ?_)
      refine xald 52 ⟨u51, _, rfl⟩ rfl rfl ?_
      refine xald 53 ⟨u51, _, rfl⟩ rfl rfl ?_
      refine xgetD 56 (15) hH50 ⟨u51, _, rfl⟩ rfl (by decide) (by decide) rfl rfl (by decide) ?_
      refine xlen 57 hH50 ⟨u51, _, rfl⟩ rfl (by decide) rfl (by decide) (by decide) (fun z56 h56 => ?_)
      refine xcst 58 (1) ⟨u51, _, rfl⟩ rfl (by decide) (fun z57 h57 => ?_)
      refine xsub 59 _ ⟨u51, _, rfl⟩ rfl rfl (by omega) (by omega) (fun z58 h58 => ?_)
      refine xputC 62 hH50 ⟨u51, _, rfl⟩ rfl (by decide) (by decide) rfl rfl (by decide) ⟨rfl, rfl⟩ (by omega) (by omega) (fun hp59 hH59 U59 => ?_)
      have s59 := U59.1
      exact xretV ⟨u51, _, rfl⟩ rfl (hR hp59 hH59 (hyF.trans (b := hp) (fun c k e => hF c k (by omega)) ((hyF_V U50 (by decide)).trans (hyF_U U59 (by decide)))) (fun c k e1 e2 => (U59.2 c k (fun z => e2 ⟨z.1, z.2⟩)).trans ((U50.2 c k (fun z => e1 z.1)).trans (hF c k e1))) (by omega) (fun k hk => (U59.2 15 k (by omega)).trans ((U50.2 15 k (by omega)).trans (h1 k (by omega)))) ((U59.2 15 9 (by omega)).trans U50.1))
    · omega
  | succ jj ih =>
    intro t w hp hw ht hj hH hF h1 h2
    refine xild 10 ⟨u51, _, rfl⟩ rfl rfl ?_
    refine xald 11 ⟨u51, _, rfl⟩ rfl rfl ?_
    refine xgetD 14 (15) hH ⟨u51, _, rfl⟩ rfl (by decide) (by decide) rfl rfl (by decide) ?_
    refine xlen 15 hH ⟨u51, _, rfl⟩ rfl (by decide) rfl (by decide) (by decide) (fun z14 h14 => ?_)
    refine xcmp_ge 18 ⟨u51, _, rfl⟩ rfl (fun c15 => ?_) (fun c15 => ?_)
    · omega
    · refine xald 19 ⟨u51, _, rfl⟩ rfl rfl ?_
      refine xgetD 22 (15) hH ⟨u51, _, rfl⟩ rfl (by decide) (by decide) rfl rfl (by decide) ?_
      refine xild 23 ⟨u51, _, rfl⟩ rfl rfl ?_
      refine xcst 24 (1) ⟨u51, _, rfl⟩ rfl (by decide) (fun z23 h23 => ?_)
      refine xsub 25 _ ⟨u51, _, rfl⟩ rfl rfl (by omega) (by omega) (fun z24 h24 => ?_)
      refine xald 26 ⟨u51, _, rfl⟩ rfl rfl ?_
      refine xgetD 29 (15) hH ⟨u51, _, rfl⟩ rfl (by decide) (by decide) rfl rfl (by decide) ?_
      refine xild 30 ⟨u51, _, rfl⟩ rfl rfl ?_
      refine xaald 31 (t) (f t) hH ⟨u51, _, rfl⟩ rfl (by decide) rfl (by omega) (by omega) (h2 t (by omega) (by omega)) ?_
      refine xaast 32 (t - 1) (f t) hH ⟨u51, _, rfl⟩ rfl (by decide) rfl (by omega) (by omega) rfl (sn_bY (hA.1 t (by omega)).1) (sn_is hH (hA.1 t (by omega)).1) (fun hp31 hH31 U31 => ?_)
      refine xinc 35 (1) ⟨u51, _, rfl⟩ rfl rfl rfl (by decide) (by omega) (by omega) (fun z32 h32 => ?_)
      refine xgoto ⟨u51, _, rfl⟩ ?_
      exact ih (t + 1) _ hp31 (by omega) (by omega) (by omega) hH31 (fun c k e => (U31.2 c k (fun z => e z.1)).trans (hF c k e)) (fun k hk => by
        by_cases g : k = t - 1
        · rw [g, U31.1, show t - 1 + 1 = t by omega]
        · rw [U31.2 15 k (by omega)]
          exact h1 k (by omega)) (fun k hk1 hk2 => by
        rw [U31.2 15 k (by omega)]
        exact h2 k (by omega) hk2)
theorem k_fgo {d : Nat} {hp : amH} {R : xQ} {f : Nat → Nat} (hA : hyA hp f) (hH : bHk 84 bTT hp)
    (hR : ∀ hp1, bHk 84 bTT hp1 → hyF hp hp1 → (∀ c k, ¬ c = 15 → ¬ (c = 14 ∧ k = 0) → bFld hp1 c k = bFld hp c k) → rN hp1 14 0 = 9 → (∀ k, k < 9 → bFld hp1 15 k = some (.ref (f (k + 1)))) → bFld hp1 15 9 = some (.ref (f 0)) → R (.inl none) hp1) : xK d 51 [.ref 14] hp R := by
  refine xin (M := am_m51) rfl rfl rfl ?_
  refine xald 1 ⟨u51, _, rfl⟩ rfl rfl ?_
  refine xgetD 4 (15) hH ⟨u51, _, rfl⟩ rfl (by decide) (by decide) rfl rfl (by decide) ?_
  refine xcst 5 (0) ⟨u51, _, rfl⟩ rfl (by decide) (fun z4 h4 => ?_)
  refine xaald 6 (0) (f 0) hH ⟨u51, _, rfl⟩ rfl (by decide) rfl (by omega) (by omega) ((hA.1 0 (by decide)).2.2) ?_
  refine xast 7 ⟨u51, _, rfl⟩ rfl rfl (by simp [amOk, sn_lt (hA.1 0 (by decide)).1]) ?_
  refine xcst 8 (1) ⟨u51, _, rfl⟩ rfl (by decide) (fun z7 h7 => ?_)
  refine xist 9 ⟨u51, _, rfl⟩ rfl rfl ?_
  exact l51 hA hR 9 1 _ hp (by omega) (by omega) (by omega) hH (fun _ _ _ => rfl) (fun k hk => absurd hk (by omega)) (fun k _ hk => (hA.1 k hk).2.2)
/-- how many are kept behind a push, and which -/
noncomputable def pM (n : Nat) : Nat := if n = 10 then 9 else n
noncomputable def pH (n : Nat) (h : Nat → sR) (q : sR) : Nat → sR := fun k => if k = pM n then q else if n = 10 then h (k + 1) else h k
theorem hyS_fr {hp hp1 : amH} {sv : Option sR} (h : hyS hp sv) (e : rN hp1 14 3 = rN hp 14 3) (F : ∀ c, 16 ≤ c → c ≤ 18 → ∀ k, bFld hp1 c k = bFld hp c k) : hyS hp1 sv := by
  cases sv with
  | none => exact e.trans h
  | some q => exact ⟨e.trans h.1, snOk_fr h.2 F⟩
theorem k_push {d n V : Nat} {h : Nat → sR} {sv : Option sR} {T : sT} {hp : amH} {R : xQ} (hH : bHk 84 bTT hp) (hY : hyC hp n h sv) (hB : bdOk hp 3 V T) (hL : lsN hp 3 T 225)
    (hR : ∀ hp1, bHk 84 bTT hp1 → hyF hp hp1 → hyC hp1 (pM n + 1) (pH n h (V, T, rN hp 13)) sv → R (.inl none) hp1) : xK (d + 2) 50 [.ref 14, .ref 3, .ref 13] hp R := by
  obtain ⟨y1, y2, y3, ⟨f, hA, y4⟩, y5⟩ := hY
  -- behind the place made
  have key : ∀ hp2, bHk 84 bTT hp2 → hyF hp hp2 → ∀ g : Nat → Nat, hyA hp2 g → (∀ s, sn s → snF hp2 s) → rN hp2 14 0 = ((pM n : Nat) : Int) → (∀ k, k < pM n → snOk hp2 (g k) (if n = 10 then h (k + 1) else h k)) → hyS hp2 sv → xV (d + 2) am_m50 16 [some (.ref 14), some (.ref 3), some (.ref 13)] [] hp2 R := by
    intro hp2 hH hF g hA a1 a2 a3 a4
    have pm : pM n ≤ 9 := by unfold pM; split <;> omega
    have hBB : bdOk hp2 3 V T := bdOk_fr hB (hyF_n hF (by omega)) (fun i => hyF_n hF (by omega)) (fun i => hyF_n hF (by omega))
    have hLL : lsN hp2 3 T 225 := lsN_fr hL (hyF_n hF (by omega)) (fun i => hyF_n hF (by omega)) (fun i => hyF_n hF (by omega))
    have e13 : rN hp2 13 = rN hp 13 := funext fun i => hyF_n hF (by omega)
    obtain ⟨m1, m2, m3⟩ := hA.1 (pM n) (by omega)
    have mm := sn_mod m1
    refine xald 17 ⟨u50, _, rfl⟩ rfl rfl ?_
    refine xgetC 20 hH ⟨u50, _, rfl⟩ rfl (by decide) (by decide) rfl rfl (by decide) (fun z17 h17 => ?_)
    refine xald 21 ⟨u50, _, rfl⟩ rfl rfl ?_
    refine xgetD 24 (15) hH ⟨u50, _, rfl⟩ rfl (by decide) (by decide) rfl rfl (by decide) ?_
    refine xlen 25 hH ⟨u50, _, rfl⟩ rfl (by decide) rfl (by decide) (by decide) (fun z24 h24 => ?_)
    refine xcmp_ge 28 ⟨u50, _, rfl⟩ rfl (fun c25 => ?_) (fun c25 => ?_)
    · omega
    · refine xald 29 ⟨u50, _, rfl⟩ rfl rfl ?_
      refine xgetD 32 (15) hH ⟨u50, _, rfl⟩ rfl (by decide) (by decide) rfl rfl (by decide) ?_
      refine xald 33 ⟨u50, _, rfl⟩ rfl rfl ?_
      refine xgetC 36 hH ⟨u50, _, rfl⟩ rfl (by decide) (by decide) rfl rfl (by decide) (fun z33 h33 => ?_)
      refine xaald 37 (pM n) (g (pM n)) hH ⟨u50, _, rfl⟩ rfl (by decide) rfl (by omega) (by omega) (m3) ?_
      refine xnull 40 ⟨u50, _, rfl⟩ rfl ?_
      refine xald 41 ⟨u50, _, rfl⟩ rfl rfl ?_
      refine xgetD 44 (15) hH ⟨u50, _, rfl⟩ rfl (by decide) (by decide) rfl rfl (by decide) ?_
      refine xald 45 ⟨u50, _, rfl⟩ rfl rfl ?_
      refine xgetC 48 hH ⟨u50, _, rfl⟩ rfl (by decide) (by decide) rfl rfl (by decide) (fun z45 h45 => ?_)
      refine xaald 49 (pM n) (g (pM n)) hH ⟨u50, _, rfl⟩ rfl (by decide) rfl (by omega) (by omega) (m3) ?_
      refine xald 50 ⟨u50, _, rfl⟩ rfl rfl ?_
      refine xald 51 ⟨u50, _, rfl⟩ rfl rfl ?_
      refine xcallC 54 (o := g (pM n)) [.ref 3, .ref 13] [] hH ⟨u50, _, rfl⟩ rfl rfl (sn_lt m1) (sn_T m1) (by decide) rfl ⟨rfl, rfl, rfl, rfl⟩ rfl (k_keep m1 (a1 _ m1) hH hBB hLL (fun hp51 hH51 F51 f51 s51 => ⟨_, rfl, ?_⟩))
      refine xald 55 ⟨u50, _, rfl⟩ rfl rfl ?_
      refine xdup 56 ⟨u50, _, rfl⟩ rfl rfl ?_
      have e51 : rN hp51 14 0 = rN hp2 14 0 := bFx_n F51 (by simp; omega)
      refine xgetC 59 hH51 ⟨u50, _, rfl⟩ rfl (by decide) (by decide) rfl rfl (by decide) (fun z56 h56 => ?_)
      refine xcst 60 (1) ⟨u50, _, rfl⟩ rfl (by decide) (fun z59 h59 => ?_)
      refine xadd 61 _ ⟨u50, _, rfl⟩ rfl rfl (by omega) (by omega) (fun z60 h60 => ?_)
      refine xputC 64 hH51 ⟨u50, _, rfl⟩ rfl (by decide) (by decide) rfl rfl (by decide) ⟨rfl, rfl⟩ (by omega) (by omega) (fun hp61 hH61 U61 => ?_)
      have s61 := U61.1
      refine xretV ⟨u50, _, rfl⟩ rfl (hR hp61 hH61 (hF.trans ((hyF_x F51 (fun c hc => by simp at hc; omega)).trans (hyF_U U61 (by decide)))) ⟨by rw [U61.1]; omega, by omega, fun s hs => ?_, ⟨g, ⟨fun k hk => ⟨(hA.1 k hk).1, (hA.1 k hk).2.1, ?_⟩, hA.2⟩, fun k hk => ?_⟩, hyS_fr a4 ((rU_ne U61 (by first | decide | exact (fun z => absurd z.1 (by decide)) | omega)).trans (bFx_n F51 (by simp; omega))) (fun c c1 c2 k => (U61.2 c k (by omega)).trans (F51 c k (by simp; omega)))⟩)
      · by_cases e : s = g (pM n)
        · subst e
          exact ⟨(U61.2 _ 2 (by omega)).trans f51.1, (U61.2 _ 3 (by omega)).trans f51.2⟩
        · have := sn_mod hs
          exact ⟨(U61.2 _ 2 (by omega)).trans ((F51 _ 2 (by simp; omega)).trans (a1 s hs).1), (U61.2 _ 3 (by omega)).trans ((F51 _ 3 (by simp; omega)).trans (a1 s hs).2)⟩
      · exact (U61.2 15 k (by omega)).trans ((F51 15 k (by simp; omega)).trans (hA.1 k hk).2.2)
      · unfold pH
        by_cases e : k = pM n
        · rw [if_pos e, e]
          refine snOk_fr ?_ (fun c c1 c2 k => U61.2 c k (by omega))
          rw [← e13]
          exact s51
        · rw [if_neg e]
          have k1 := (hA.1 k (by omega)).1
          have k2 := sn_mod k1
          have k3 : ¬ g k = g (pM n) := fun z => e (hA.2 k (pM n) (by omega) (by omega) z)
          exact snOk_fr (a3 k (by omega)) (fun c c1 c2 j => (U61.2 c j (by omega)).trans (F51 c j (by simp; omega)))
  refine xin (M := am_m50) rfl rfl rfl ?_
  refine xald 1 ⟨u50, _, rfl⟩ rfl rfl ?_
  refine xgetC 4 hH ⟨u50, _, rfl⟩ rfl (by decide) (by decide) rfl rfl (by decide) (fun z1 h1 => ?_)
  refine xald 5 ⟨u50, _, rfl⟩ rfl rfl ?_
  refine xgetD 8 (15) hH ⟨u50, _, rfl⟩ rfl (by decide) (by decide) rfl rfl (by decide) ?_
  refine xlen 9 hH ⟨u50, _, rfl⟩ rfl (by decide) rfl (by decide) (by decide) (fun z8 h8 => ?_)
  refine xcmp_ne 12 ⟨u50, _, rfl⟩ rfl (fun c9 => ?_) (fun c9 => ?_)
  · have en : ¬ n = 10 := by omega
    have pm : pM n = n := by unfold pM; rw [if_neg en]
    exact key hp hH (fun _ _ _ => rfl) f hA y3 (by rw [pm]; exact y1) (fun k hk => by simp only [if_neg en]; exact y4 k (by omega)) y5
  · refine xald 13 ⟨u50, _, rfl⟩ rfl rfl ?_
    refine xcallC 16 (o := 14) [] [] hH ⟨u50, _, rfl⟩ rfl rfl (by decide) rfl (by decide) rfl ⟨rfl, rfl, rfl, rfl⟩ rfl (k_fgo hA hH (fun hp13 hH13 F13 G13 e13 A13 B13 => ⟨_, rfl, ?_⟩))
    have en : n = 10 := by omega
    have pm : pM n = 9 := by unfold pM; rw [if_pos en]
    exact key hp13 hH13 F13 (fun k => if k = 9 then f 0 else f (k + 1)) ⟨fun k hk => by
      by_cases g : k = 9
      · subst g
        simp only [if_true]
        exact ⟨(hA.1 0 (by decide)).1, (hA.1 0 (by decide)).2.1, B13⟩
      · simp only [if_neg g]
        exact ⟨(hA.1 (k + 1) (by omega)).1, (hA.1 (k + 1) (by omega)).2.1, A13 k (by omega)⟩, fun j k hj hk e => by
      by_cases g1 : j = 9
      · by_cases g2 : k = 9
        · omega
        · simp only [if_pos g1, if_neg g2] at e
          have := hA.2 0 (k + 1) (by omega) (by omega) e
          omega
      · by_cases g2 : k = 9
        · simp only [if_neg g1, if_pos g2] at e
          have := hA.2 (j + 1) 0 (by omega) (by omega) e
          omega
        · simp only [if_neg g1, if_neg g2] at e
          have := hA.2 (j + 1) (k + 1) (by omega) (by omega) e
          omega⟩ (fun s hs => by
      have := sn_mod hs
      exact ⟨(G13 s 2 (by omega) (by omega)).trans (y3 s hs).1, (G13 s 3 (by omega) (by omega)).trans (y3 s hs).2⟩) (by rw [e13, pm]; rfl) (fun k hk => by
      have k1 := sn_mod (hA.1 (k + 1) (by omega)).1
      simp only [if_pos en, if_neg (show ¬ k = 9 by omega)]
      exact snOk_fr (y4 (k + 1) (by omega)) (fun c c1 c2 j => G13 c j (by omega) (by omega))) (hyS_fr y5 (rN_eq (G13 14 3 (by decide) (by decide))) (fun c c1 c2 k => G13 c k (by omega) (by omega)))
theorem k_cmem {d n V : Nat} {h : Nat → sR} {sv : Option sR} {T : sT} {hp : amH} {R : xQ} (hH : bHk 84 bTT hp) (hY : hyC hp n h sv) (hB : bdOk hp 3 V T) (hL : lsN hp 3 T 225)
    (hR : ∀ hp1, bHk 84 bTT hp1 → hyF hp hp1 → hyC hp1 (pM n + 1) (pH n h (V, T, rN hp 13)) sv → R (.inl none) hp1) : xK (d + 3) 184 [.ref 0] hp R := by
  refine xin (M := am_m184) rfl rfl rfl ?_
  refine xald 1 ⟨u184, _, rfl⟩ rfl rfl ?_
  refine xgetD 4 (14) hH ⟨u184, _, rfl⟩ rfl (by decide) (by decide) rfl rfl (by decide) ?_
  refine xald 5 ⟨u184, _, rfl⟩ rfl rfl ?_
  refine xgetD 8 (3) hH ⟨u184, _, rfl⟩ rfl (by decide) (by decide) rfl rfl (by decide) ?_
  refine xald 9 ⟨u184, _, rfl⟩ rfl rfl ?_
  refine xgetD 12 (13) hH ⟨u184, _, rfl⟩ rfl (by decide) (by decide) rfl rfl (by decide) ?_
  refine xcallC 15 (o := 14) [.ref 3, .ref 13] [] hH ⟨u184, _, rfl⟩ rfl rfl (by decide) rfl (by decide) rfl ⟨rfl, rfl, rfl, rfl⟩ rfl (k_push hH hY hB hL (fun hp12 hH12 F12 Y12 => ⟨_, rfl, ?_⟩))
  exact xretV ⟨u184, _, rfl⟩ rfl (hR _ hH12 F12 Y12)
end
/-! ##### 19.m.036.31c ##### -/
section
/-! ===== a system built of the triples of another, one by one (pure) ===== -/
/-- the number of the triple of a pair: its two smaller points -/
noncomputable def cd (T : sT) (u v : Nat) : Nat := 15 * min u (min v (T u v).toNat) + (u + v + (T u v).toNat - min u (min v (T u v).toNat) - max u (max v (T u v).toNat))
/-- the triples numbered below n, moved by a map of points -/
noncomputable def pG (σ : Nat → Nat) (T : sT) : Nat → sT
  | 0 => sE
  | n + 1 => if trB T n = true then sPut (pG σ T n) (σ (n / 15)) (σ (n % 15)) (σ (T (n / 15) (n % 15)).toNat) else pG σ T n
/-- a map of the points onto themselves -/
noncomputable def sPm (V : Nat) (σ : Nat → Nat) : Prop := (∀ u, u < V → σ u < V) ∧ (∀ u v, u < V → v < V → σ u = σ v → u = v) ∧ ∀ p, p < V → ∃ u, u < V ∧ σ u = p
theorem sPm_id {V : Nat} : sPm V id := ⟨fun _ h => h, fun _ _ _ _ h => h, fun p h => ⟨p, h, rfl⟩⟩
theorem cd_of {V : Nat} {T : sT} (hT : sOk V T) {u v : Nat} (h : ¬ T u v = -1) : trB T (cd T u v) = true ∧ cd T u v < 225 ∧ sPr (cd T u v / 15) (cd T u v % 15) (T (cd T u v / 15) (cd T u v % 15)).toNat u v := by
  obtain ⟨w, ew, h1, h2, h3, h4, h5, h6, t1, t2, t3, t4, t5⟩ := sOk_at hT rfl h
  have hV := hT.2.1
  unfold cd
  rw [ew, Int.toNat_natCast]
  rcases Nat.lt_trichotomy u v with a | a | a
  · rcases Nat.lt_trichotomy v w with b | b | b
    · -- u < v < w
      have e : 15 * min u (min v w) + (u + v + w - min u (min v w) - max u (max v w)) = 15 * u + v := by omega
      rw [e, show (15 * u + v) / 15 = u by omega, show (15 * u + v) % 15 = v by omega, ew, Int.toNat_natCast]
      exact ⟨decide_eq_true (by rw [show (15 * u + v) / 15 = u by omega, show (15 * u + v) % 15 = v by omega, ew]; omega), by omega, by omega⟩
    · omega
    · rcases Nat.lt_trichotomy u w with c | c | c
      · -- u < w < v
        have e : 15 * min u (min v w) + (u + v + w - min u (min v w) - max u (max v w)) = 15 * u + w := by omega
        rw [e, show (15 * u + w) / 15 = u by omega, show (15 * u + w) % 15 = w by omega, t2, Int.toNat_natCast]
        exact ⟨decide_eq_true (by rw [show (15 * u + w) / 15 = u by omega, show (15 * u + w) % 15 = w by omega, t2]; omega), by omega, by omega⟩
      · omega
      · -- w < u < v
        have e : 15 * min u (min v w) + (u + v + w - min u (min v w) - max u (max v w)) = 15 * w + u := by omega
        rw [e, show (15 * w + u) / 15 = w by omega, show (15 * w + u) % 15 = u by omega, t4, Int.toNat_natCast]
        exact ⟨decide_eq_true (by rw [show (15 * w + u) / 15 = w by omega, show (15 * w + u) % 15 = u by omega, t4]; omega), by omega, by omega⟩
  · omega
  · rcases Nat.lt_trichotomy u w with b | b | b
    · -- v < u < w
      have e : 15 * min u (min v w) + (u + v + w - min u (min v w) - max u (max v w)) = 15 * v + u := by omega
      rw [e, show (15 * v + u) / 15 = v by omega, show (15 * v + u) % 15 = u by omega, t1, Int.toNat_natCast]
      exact ⟨decide_eq_true (by rw [show (15 * v + u) / 15 = v by omega, show (15 * v + u) % 15 = u by omega, t1]; omega), by omega, by omega⟩
    · omega
    · rcases Nat.lt_trichotomy v w with c | c | c
      · -- v < w < u
        have e : 15 * min u (min v w) + (u + v + w - min u (min v w) - max u (max v w)) = 15 * v + w := by omega
        rw [e, show (15 * v + w) / 15 = v by omega, show (15 * v + w) % 15 = w by omega, t3, Int.toNat_natCast]
        exact ⟨decide_eq_true (by rw [show (15 * v + w) / 15 = v by omega, show (15 * v + w) % 15 = w by omega, t3]; omega), by omega, by omega⟩
      · omega
      · -- w < v < u
        have e : 15 * min u (min v w) + (u + v + w - min u (min v w) - max u (max v w)) = 15 * w + v := by omega
        rw [e, show (15 * w + v) / 15 = w by omega, show (15 * w + v) % 15 = v by omega, t5, Int.toNat_natCast]
        exact ⟨decide_eq_true (by rw [show (15 * w + v) / 15 = w by omega, show (15 * w + v) % 15 = v by omega, t5]; omega), by omega, by omega⟩
/-- the pairs of the triple numbered n -/
theorem cd_pr {V : Nat} {T : sT} (hT : sOk V T) {n u v : Nat} (hn : trB T n = true) (h : sPr (n / 15) (n % 15) (T (n / 15) (n % 15)).toNat u v) : ((u : Nat) : Int) + v + T u v = ((n / 15 : Nat) : Int) + ((n % 15 : Nat) : Int) + T (n / 15) (n % 15) ∧ ¬ T u v = -1 ∧ cd T u v = n := by
  obtain ⟨z, ez, h1, h2, h3⟩ := tr_pts hT hn
  have hV := hT.2.1
  generalize hx : n / 15 = x at *
  generalize hy : n % 15 = y at *
  rw [ez, Int.toNat_natCast] at h
  obtain ⟨k, ek, -, -, -, k1, k2, k3, t1, t2, t3, t4, t5⟩ := sOk_at hT ez (by omega)
  have : k = z := by omega
  subst this
  obtain ⟨g0, g1, g2⟩ := h
  have en : n = 15 * x + y := by omega
  unfold cd
  rcases g1 with g1 | g1 | g1 <;> rcases g2 with g2 | g2 | g2 <;> rw [g1, g2] <;> first | exact absurd (g1.trans g2.symm) g0 | (simp only [ez, t1, t2, t3, t4, t5, Int.toNat_natCast]; refine ⟨?_, ?_, ?_⟩ <;> first | trivial | omega)
theorem cd_lt {V : Nat} {T : sT} (hT : sOk V T) {u v : Nat} (h : ¬ T u v = -1) : cd T u v < 225 := (cd_of hT h).2.1
theorem pG_s {V : Nat} {T : sT} {σ : Nat → Nat} (hT : sOk V T) (hs : sPm V σ) : ∀ n, sOk V (pG σ T n) ∧ (∀ p q, ¬ (p < V ∧ q < V) → pG σ T n p q = -1) ∧ ∀ u v, u < V → v < V → (pG σ T n (σ u) (σ v) = (((σ (T u v).toNat : Nat)) : Int) ∧ ¬ T u v = -1 ∧ cd T u v < n) ∨ (pG σ T n (σ u) (σ v) = -1 ∧ (¬ T u v = -1 → n ≤ cd T u v))
  | 0 => ⟨sOk_E hT.1 hT.2.1, fun _ _ _ => rfl, fun u v _ _ => Or.inr ⟨rfl, fun _ => Nat.zero_le _⟩⟩
  | n + 1 => by
    obtain ⟨i1, i2, i3⟩ := pG_s hT hs n
    by_cases hb : trB T n = true
    · have e : pG σ T (n + 1) = sPut (pG σ T n) (σ (n / 15)) (σ (n % 15)) (σ (T (n / 15) (n % 15)).toNat) := by
        show (if trB T n = true then _ else _) = _
        rw [if_pos hb]
      obtain ⟨z, ez, h1, h2, h3⟩ := tr_pts hT hb
      have hcd := fun u v => cd_pr hT (u := u) (v := v) hb
      have hV := hT.2.1
      have hcd2 : ∀ u v, ¬ T u v = -1 → cd T u v = n → sPr (n / 15) (n % 15) z u v := fun u v hne en => by
        have g3 := (cd_of hT hne).2.2
        rw [en, ez, Int.toNat_natCast] at g3
        exact g3
      rw [ez, Int.toNat_natCast] at hcd e
      generalize n / 15 = x at *
      generalize n % 15 = y at *
      obtain ⟨s1, s2, s3⟩ := hs
      have free : ∀ u v, sPr x y z u v → pG σ T n (σ u) (σ v) = -1 := fun u v hp => by
        obtain ⟨c1, c2, c3⟩ := hcd u v hp
        rcases i3 u v (by omega) (by omega) with g | g
        · have := g.2.2; omega
        · exact g.1
      have hinj : ∀ u v, u < V → v < V → (sPr (σ x) (σ y) (σ z) (σ u) (σ v) ↔ sPr x y z u v) := fun u v hu hv => by
        constructor
        · rintro ⟨g0, g1, g2⟩
          refine ⟨fun z => g0 (by rw [z]), ?_, ?_⟩
          · rcases g1 with g | g | g
            · exact Or.inl (s2 _ _ hu (by omega) g)
            · exact Or.inr (Or.inl (s2 _ _ hu (by omega) g))
            · exact Or.inr (Or.inr (s2 _ _ hu (by omega) g))
          · rcases g2 with g | g | g
            · exact Or.inl (s2 _ _ hv (by omega) g)
            · exact Or.inr (Or.inl (s2 _ _ hv (by omega) g))
            · exact Or.inr (Or.inr (s2 _ _ hv (by omega) g))
        · rintro ⟨g0, g1, g2⟩
          refine ⟨fun z => g0 (s2 _ _ hu hv z), ?_, ?_⟩
          · rcases g1 with rfl | rfl | rfl <;> simp
          · rcases g2 with rfl | rfl | rfl <;> simp
      have dx : ¬ σ x = σ y := fun z => by have := s2 _ _ (by omega) (by omega) z; omega
      have dy : ¬ σ y = σ z := fun z => by have := s2 _ _ (by omega) (by omega) z; omega
      have dz : ¬ σ x = σ z := fun z => by have := s2 _ _ (by omega) (by omega) z; omega
      have bx := s1 x (by omega)
      have bY := s1 y (by omega)
      have bz := s1 z (by omega)
      rw [e]
      refine ⟨sOk_put i1 bx bY bz dx dy dz ⟨free x y ⟨by omega, by omega, by omega⟩, free y z ⟨by omega, by omega, by omega⟩, free x z ⟨by omega, by omega, by omega⟩⟩, fun p q hpq => ?_, fun u v hu hv => ?_⟩
      · unfold sPut
        rw [if_neg (fun g => hpq (by obtain ⟨-, g1, g2⟩ := g; omega))]
        exact i2 p q hpq
      · unfold sPut
        by_cases hp : sPr x y z u v
        · rw [if_pos ((hinj u v hu hv).mpr hp)]
          obtain ⟨c1, c2, c3⟩ := hcd u v hp
          refine Or.inl ⟨?_, c2, by omega⟩
          obtain ⟨g0, g1, g2⟩ := hp
          rcases g1 with rfl | rfl | rfl <;> rcases g2 with rfl | rfl | rfl <;> first | exact absurd rfl g0 | skip
          · rw [show (T u v).toNat = z by omega]; omega
          · rw [show (T u v).toNat = y by omega]; omega
          · rw [show (T u v).toNat = z by omega]; omega
          · rw [show (T u v).toNat = x by omega]; omega
          · rw [show (T u v).toNat = y by omega]; omega
          · rw [show (T u v).toNat = x by omega]; omega
        · rw [if_neg (fun g => hp ((hinj u v hu hv).mp g))]
          rcases i3 u v hu hv with g | g
          · exact Or.inl ⟨g.1, g.2.1, by have := g.2.2; omega⟩
          · refine Or.inr ⟨g.1, fun hne => ?_⟩
            have g2 := g.2 hne
            by_cases en : cd T u v = n
            · exact absurd (hcd2 u v hne en) hp
            · omega
    · have e : pG σ T (n + 1) = pG σ T n := by
        show (if trB T n = true then _ else _) = _
        rw [if_neg hb]
      rw [e]
      refine ⟨i1, i2, fun u v hu hv => ?_⟩
      rcases i3 u v hu hv with g | g
      · exact Or.inl ⟨g.1, g.2.1, by have := g.2.2; omega⟩
      · refine Or.inr ⟨g.1, fun hne => ?_⟩
        have g2 := g.2 hne
        by_cases en : cd T u v = n
        · exact absurd (by rw [← en]; exact (cd_of hT hne).1) hb
        · omega
end
/-! ##### 19.m.037.31d ##### -/
section
/-! ===== the class gives back what was ===== -/
theorem pG_id {V : Nat} {T : sT} (hT : sOk V T) : pG id T 225 = T := by
  obtain ⟨-, i2, i3⟩ := pG_s hT (sPm_id (V := V)) 225
  funext u v
  by_cases h : u < V ∧ v < V
  · rcases i3 u v h.1 h.2 with g | g
    · obtain ⟨w, ew, -⟩ := sOk_at hT rfl g.2.1
      have g1 : pG id T 225 u v = (((T u v).toNat : Nat) : Int) := g.1
      rw [g1, ew, Int.toNat_natCast]
    · have g1 : pG id T 225 u v = -1 := g.1
      rw [g1]
      by_cases e : T u v = -1
      · exact e.symm
      · have := g.2 e
        have := cd_lt hT e
        omega
  · rw [i2 u v h]
    rcases hT.2.2 u v with g | ⟨c, g1, g2, g3, -⟩
    · exact g.symm
    · exact absurd ⟨g2, g3⟩ h
theorem trL_mono {T : sT} (n : Nat) : ∀ k, (trL T n).length ≤ (trL T (n + k)).length
  | 0 => Nat.le_refl _
  | k + 1 => by
    have := trL_mono (T := T) n k
    have e : (trL T (n + (k + 1))) = (if trB T (n + k) = true then trL T (n + k) ++ [n + k] else trL T (n + k)) := rfl
    rw [e]
    split
    · rw [List.length_append]; omega
    · exact this
theorem pG_len {σ : Nat → Nat} {T : sT} {n : Nat} : ∀ k, (trL T (n + k)).length = (trL T n).length → pG σ T (n + k) = pG σ T n
  | 0, _ => rfl
  | k + 1, h => by
    have e : (trL T (n + (k + 1))) = (if trB T (n + k) = true then trL T (n + k) ++ [n + k] else trL T (n + k)) := rfl
    have e2 : pG σ T (n + (k + 1)) = (if trB T (n + k) = true then sPut (pG σ T (n + k)) (σ ((n + k) / 15)) (σ ((n + k) % 15)) (σ (T ((n + k) / 15) ((n + k) % 15)).toNat) else pG σ T (n + k)) := rfl
    have m := trL_mono (T := T) n k
    rw [e] at h
    rw [e2]
    split at h
    · rw [List.length_append, List.length_singleton] at h
      omega
    · next g =>
      rw [if_neg g]
      exact pG_len k h
theorem pG_eq {σ : Nat → Nat} {T : sT} {n m : Nat} (h : (trL T n).length = (trL T m).length) : pG σ T n = pG σ T m := by
  rcases Nat.le_total n m with g | g
  · obtain ⟨k, rfl⟩ := Nat.exists_eq_add_of_le g
    exact (pG_len k h.symm).symm
  · obtain ⟨k, rfl⟩ := Nat.exists_eq_add_of_le g
    exact pG_len k h
theorem trL_get {T : sT} : ∀ n t, t < (trL T n).length → trB T ((trL T n).getD t 0) = true ∧ (trL T n).getD t 0 < n ∧ (trL T ((trL T n).getD t 0)).length = t
  | 0, t, h => absurd h (Nat.not_lt_zero t)
  | n + 1, t, h => by
    by_cases hb : trB T n = true
    · have e : trL T (n + 1) = trL T n ++ [n] := trL_add hb
      rw [e] at h ⊢
      rw [List.length_append, List.length_singleton] at h
      by_cases g : t = (trL T n).length
      · subst g
        rw [gd_end]
        exact ⟨hb, Nat.lt_succ_self n, rfl⟩
      · rw [gd_app (by omega)]
        obtain ⟨g1, g2, g3⟩ := trL_get (T := T) n t (by omega)
        exact ⟨g1, by omega, g3⟩
    · have e : trL T (n + 1) = trL T n := by
        show (if trB T n = true then _ else _) = _
        rw [if_neg hb]
      rw [e] at h ⊢
      obtain ⟨g1, g2, g3⟩ := trL_get n t h
      exact ⟨g1, by omega, g3⟩
/-- the next triple -/
theorem pG_next {V : Nat} {T : sT} {σ : Nat → Nat} (hT : sOk V T) (hs : sPm V σ) {t m : Nat} (ht : t < (trL T 225).length) (hm : (trL T m).length = t) : ∃ n x y z : Nat, (trL T 225).getD t 0 = n ∧ n / 15 = x ∧ n % 15 = y ∧ T x y = (z : Int) ∧ mk3 T n = m3 x y z ∧ x < y ∧ y < z ∧ z < V ∧ n < 225 ∧ (trL T (n + 1)).length = t + 1 ∧ pG σ T (n + 1) = sPut (pG σ T m) (σ x) (σ y) (σ z) ∧ sFree (pG σ T m) (σ x) (σ y) (σ z) := by
  obtain ⟨g1, g2, g3⟩ := trL_get 225 t ht
  obtain ⟨z, ez, h1, h2, h3⟩ := tr_pts hT g1
  generalize hn : (trL T 225).getD t 0 = n at *
  have e : pG σ T n = pG σ T m := pG_eq (g3.trans hm.symm)
  have el : (trL T (n + 1)).length = t + 1 := by rw [trL_add g1, List.length_append, List.length_singleton, g3]
  refine ⟨n, n / 15, n % 15, z, rfl, rfl, rfl, ez, by unfold mk3; rw [ez, Int.toNat_natCast], h1, h2, h3, g2, el, ?_, ?_⟩
  · show (if trB T n = true then _ else _) = _
    rw [if_pos g1, e, ez, Int.toNat_natCast]
  · obtain ⟨-, -, i3⟩ := pG_s hT hs n
    rw [e] at i3
    have q := fun u v hp => cd_pr hT (u := u) (v := v) g1 hp
    rw [ez, Int.toNat_natCast] at q
    have fr : ∀ u v, u < V → v < V → sPr (n / 15) (n % 15) z u v → pG σ T m (σ u) (σ v) = -1 := fun u v hu hv hp => by
      rcases i3 u v hu hv with k | k
      · have := (q u v hp).2.2
        have := k.2.2
        omega
      · exact k.1
    exact ⟨fr _ _ (by omega) (by omega) ⟨by omega, by omega, by omega⟩, fr _ _ (by omega) (by omega) ⟨by omega, by omega, by omega⟩, fr _ _ (by omega) (by omega) ⟨by omega, by omega, by omega⟩⟩
theorem l90 {d : Nat} {hp0 : amH} {R : xQ} {s V : Nat} {T : sT} {ty : Nat → Int} (hs : sn s) (F2 : snF hp0 s) (hS : snOk hp0 s (V, T, ty))
    (hR : ∀ hp1, bHk 84 bTT hp1 → bFx [3, 4, 6, 13] hp0 hp1 → bdOk hp1 3 V T → (∀ i, i < 3 → rN hp1 13 i = ty i) → R (.inl none) hp1) :
    ∀ (jj t m : Nat) (w : Int32) (hp : amH), w.toInt = (t : Int) → t + jj = (trL T 225).length → (trL T m).length = t → bHk 84 bTT hp → bFx [3, 4, 6] hp0 hp → bdOk hp 3 V (pG id T m) → xV (d + 3) am_m90 10 [some (.ref s), some (.ref 3), some (.ref 13), some (.int w)] [] hp R := by
  have c := sn_c hs
  have S1 : rN hp0 s 1 = (((trL T 225).length : Nat) : Int) := hS.2.2.2.1
  have hT : sOk V T := hS.2.1
  have hV := hT.2.1
  have l35 := trL_35 hT 225
  intro jj
  induction jj with
  | zero =>
    intro t m w hp hw hj hm hH hF hB
    have f2 := (hF s 2 (by simp; omega)).trans F2.1
    have f3 := (hF s 3 (by simp; omega)).trans F2.2
    have e1 : rN hp s 1 = rN hp0 s 1 := bFx_n hF (by simp; omega)
    have eT : pG id T m = T := (pG_eq (by omega)).trans (pG_id hT)
    rw [eT] at hB
    refine xild 11 ⟨u90, _, rfl⟩ rfl rfl ?_
    refine xald 12 ⟨u90, _, rfl⟩ rfl rfl ?_
    refine xgetC 15 hH ⟨u90, _, rfl⟩ rfl (sn_lt hs) (by decide) (sn_T hs) rfl (by decide) (fun z12 h12 => ?_)
    refine xcmp_ge 18 ⟨u90, _, rfl⟩ rfl (fun c15 => ?_) (fun c15 => ?_)
    · refine xald 44 ⟨u90, _, rfl⟩ rfl rfl ?_
      refine xald 45 ⟨u90, _, rfl⟩ rfl rfl ?_
      refine xgetF 48 (s + 2) hH ⟨u90, _, rfl⟩ rfl (sn_lt hs) (by decide) (sn_T hs) (f3) ?_
      refine xcallC 51 (o := 13) [.ref (s + 2)] [] hH ⟨u90, _, rfl⟩ rfl rfl (by decide) rfl (by decide) rfl ⟨rfl, rfl, rfl, rfl⟩ rfl (k_tyc (Or.inl rfl) (Or.inr ⟨s, hs, rfl⟩) (by omega) hH (fun hp48 hH48 F48 E48 => ⟨_, rfl, ?_⟩))
      exact xretV ⟨u90, _, rfl⟩ rfl (hR _ hH48 ((hF.mono (by simp)).trans (F48.mono (by simp))) (bdOk_fr hB (bFx_n F48 (by simp)) (fun i => bFx_n F48 (by simp)) (fun i => bFx_n F48 (by simp))) (fun i hi => by rw [E48 i hi, bFx_n hF (by simp; omega)]; exact hS.2.2.2.2.2 i hi))
    · omega
  | succ jj ih =>
    intro t m w hp hw hj hm hH hF hB
    have f2 := (hF s 2 (by simp; omega)).trans F2.1
    have f3 := (hF s 3 (by simp; omega)).trans F2.2
    have e1 : rN hp s 1 = rN hp0 s 1 := bFx_n hF (by simp; omega)
    obtain ⟨n, x, y, z, k1, k2, k3, k4, k5, k6, k7, k8, k9, k10, k11, k12⟩ := pG_next hT (sPm_id (V := V)) (t := t) (by omega) hm
    have k11 : pG id T (n + 1) = sPut (pG id T m) x y z := k11
    have k12 : sFree (pG id T m) x y z := k12
    have q1 : rN hp (s + 1) t = ((m3 x y z : Nat) : Int) := by
      rw [bFx_n hF (by simp; omega), ← k5, ← k1]
      exact hS.2.2.2.2.1 t (by show t < (trL T 225).length; omega)
    refine xild 11 ⟨u90, _, rfl⟩ rfl rfl ?_
    refine xald 12 ⟨u90, _, rfl⟩ rfl rfl ?_
    refine xgetC 15 hH ⟨u90, _, rfl⟩ rfl (sn_lt hs) (by decide) (sn_T hs) rfl (by decide) (fun z12 h12 => ?_)
    refine xcmp_ge 18 ⟨u90, _, rfl⟩ rfl (fun c15 => ?_) (fun c15 => ?_)
    · omega
    · refine xild 19 ⟨u90, _, rfl⟩ rfl rfl ?_
      refine xald 20 ⟨u90, _, rfl⟩ rfl rfl ?_
      refine xgetF 23 (s + 1) hH ⟨u90, _, rfl⟩ rfl (sn_lt hs) (by decide) (sn_T hs) (f2) ?_
      refine xlen 24 hH ⟨u90, _, rfl⟩ rfl (sn_lt1 hs) (sn_T1 hs) (by decide) (by decide) (fun z23 h23 => ?_)
      refine xcmp_ge 27 ⟨u90, _, rfl⟩ rfl (fun c24 => ?_) (fun c24 => ?_)
      · omega
      · refine xald 28 ⟨u90, _, rfl⟩ rfl rfl ?_
        refine xald 29 ⟨u90, _, rfl⟩ rfl rfl ?_
        refine xgetF 32 (s + 1) hH ⟨u90, _, rfl⟩ rfl (sn_lt hs) (by decide) (sn_T hs) (f2) ?_
        refine xild 33 ⟨u90, _, rfl⟩ rfl rfl ?_
        refine xiald 34 (w).toInt.toNat hH ⟨u90, _, rfl⟩ rfl (sn_lt1 hs) (sn_T1 hs) (by omega) (by omega) (fun z33 h33 => ?_)
        refine xcallC 37 (o := 3) [.int _] [] hH ⟨u90, _, rfl⟩ rfl rfl (by decide) rfl (by decide) rfl ⟨rfl, rfl, rfl, rfl⟩ rfl (k_bput (Or.inl rfl) hH hB (x := x) (y := y) (z := z) (by rw [h33, show w.toInt.toNat = t by omega]; exact q1) (by omega) (by omega) (by omega) k12 (fun hp34 hH34 F34 B34 => ⟨_, rfl, ?_⟩))
        refine xinc 40 (1) ⟨u90, _, rfl⟩ rfl rfl rfl (by decide) (by omega) (by omega) (fun z37 h37 => ?_)
        refine xgoto ⟨u90, _, rfl⟩ ?_
        exact ih (t + 1) (n + 1) _ hp34 (by omega) (by omega) k10 hH34 (hF.trans (F34.mono (by simp))) (by rw [k11]; exact B34)
/-- a snapshot given back -/
theorem k_gvb {d : Nat} {hp : amH} {R : xQ} {s V : Nat} {T : sT} {ty : Nat → Int} (hs : sn s) (F2 : snF hp s) (hS : snOk hp s (V, T, ty)) (hH : bHk 84 bTT hp)
    (hR : ∀ hp1, bHk 84 bTT hp1 → bFx [3, 4, 6, 13] hp hp1 → bdOk hp1 3 V T → (∀ i, i < 3 → rN hp1 13 i = ty i) → R (.inl none) hp1) : xK (d + 3) 90 [.ref s, .ref 3, .ref 13] hp R := by
  have c := sn_c hs
  have S0 : rN hp s 0 = (V : Int) := hS.1
  have hT : sOk V T := hS.2.1
  refine xin (M := am_m90) rfl rfl (by unfold xAv; simp [amOk, sn_lt hs, Value.category]) ?_
  refine xald 1 ⟨u90, _, rfl⟩ rfl rfl ?_
  refine xald 2 ⟨u90, _, rfl⟩ rfl rfl ?_
  refine xgetC 5 hH ⟨u90, _, rfl⟩ rfl (sn_lt hs) (by decide) (sn_T hs) rfl (by decide) (fun z2 h2 => ?_)
  refine xcallC 8 (o := 3) [.int _] [] hH ⟨u90, _, rfl⟩ rfl rfl (by decide) rfl (by decide) rfl ⟨rfl, rfl, rfl, rfl⟩ rfl (k_rst (o := 3) (Or.inl rfl) hH (V := V) (by omega) hT.1 hT.2.1 (fun hp5 hH5 F5 B5 z5 => ⟨_, rfl, ?_⟩))
  refine xcst 9 (0) ⟨u90, _, rfl⟩ rfl (by decide) (fun z8 h8 => ?_)
  refine xist 10 ⟨u90, _, rfl⟩ rfl rfl ?_
  exact l90 hs ⟨(F5 s 2 (by simp; omega)).trans F2.1, (F5 s 3 (by simp; omega)).trans F2.2⟩ (snOk_fr hS (fun c c1 c2 k => F5 c k (by simp; omega))) (fun hp1 k1 k2 k3 k4 => hR hp1 k1 ((F5.mono (by simp)).trans k2) k3 k4) (trL T 225).length 0 0 _ hp5 (by omega) (by omega) rfl hH5 bFx.refl B5
end
