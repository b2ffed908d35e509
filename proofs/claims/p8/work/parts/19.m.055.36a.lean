/-! ===== the class's state; a triple added ===== -/
theorem k_settle3 {d V : Nat} {T : sT} {hp : amH} {R : xQ} (hH : bHk 84 bTT hp) (hB : bdOk hp 3 V T) (hR : ∀ hp1, bHk 84 bTT hp1 → bFx [3, 5, 7, 49, 50, 51] hp hp1 → bdOk hp1 3 V T → lsN hp1 3 T 225 → qdN hp1 T 42875 → R (.inl none) hp1) : xK (d + 5) 185 [.ref 0] hp R := by
  refine xin (M := am_m185) rfl rfl rfl ?_
  refine xald 1 ⟨u185, _, rfl⟩ rfl rfl ?_
  refine xgetD 4 (3) hH ⟨u185, _, rfl⟩ rfl (by decide) (by decide) rfl rfl (by decide) ?_
  refine xcallC 7 (o := 3) [] [] hH ⟨u185, _, rfl⟩ rfl rfl (by decide) rfl (by decide) rfl ⟨rfl, rfl, rfl, rfl⟩ rfl (k_list (o := 3) (Or.inl rfl) hH hB (fun hp4 hH4 F4 B4 L4 => ⟨_, rfl, ?_⟩))
  refine xald 8 ⟨u185, _, rfl⟩ rfl rfl ?_
  refine xgetD 11 (49) hH4 ⟨u185, _, rfl⟩ rfl (by decide) (by decide) rfl rfl (by decide) ?_
  refine xald 12 ⟨u185, _, rfl⟩ rfl rfl ?_
  refine xgetD 15 (3) hH4 ⟨u185, _, rfl⟩ rfl (by decide) (by decide) rfl rfl (by decide) ?_
  refine xcallC 18 (o := 49) [.ref 3] [] hH4 ⟨u185, _, rfl⟩ rfl rfl (by decide) rfl (by decide) rfl ⟨rfl, rfl, rfl, rfl⟩ rfl (k_gath hH4 B4 L4 (q105 hB.2.1) (fun hp15 hH15 F15 Q15 => ⟨_, rfl, ?_⟩))
  exact xretV ⟨u185, _, rfl⟩ rfl (hR _ hH15 ((F4.mono (by simp)).trans (F15.mono (by simp))) (bdOk_fr B4 (bFx_n F15 (by simp)) (fun _ => bFx_n F15 (by simp)) (fun _ => bFx_n F15 (by simp))) (lsN_fr L4 (bFx_n F15 (by simp)) (fun _ => bFx_n F15 (by simp)) (fun _ => bFx_n F15 (by simp))) Q15)
def clS (hp : amH) (q : sR) (n : Nat) (h : Nat → sR) (sv : Option sR) : Prop := bdOk hp 3 q.1 q.2.1 ∧ lsN hp 3 q.2.1 225 ∧ qdN hp q.2.1 42875 ∧ (∀ i, i < 3 → rN hp 13 i = q.2.2 i) ∧ hyC hp n h sv
/-- the text and the reference stay as they were -/
def cF (hp hp1 : amH) : Prop := ∀ c k, (c = 1 ∨ c = 2 ∨ 66 ≤ c) → bFld hp1 c k = bFld hp c k
theorem cF.refl {hp : amH} : cF hp hp := fun _ _ _ => rfl
theorem cF.trans {a b c : amH} (h1 : cF a b) (h2 : cF b c) : cF a c := fun i k e => (h2 i k e).trans (h1 i k e)
theorem cF_x {W : List Nat} {hp hp1 : amH} (F : bFx W hp hp1) (h : ∀ c, c ∈ W → 3 ≤ c ∧ c < 66) : cF hp hp1 := fun c k e => F c k (fun z => by have := h c z; omega)
theorem cF_hy {hp hp1 : amH} (F : hyF hp hp1) : cF hp hp1 := fun c k e => F c k (by omega)
theorem cF_U {hp hp1 : amH} {c i : Nat} {m : Int} (U : rU hp hp1 c i m) (h : 3 ≤ c ∧ c < 66) : cF hp hp1 := fun c1 k e => U.2 c1 k (fun z => by omega)
theorem snOk_ty {hp : amH} {s V : Nat} {T : sT} {f g : Nat → Int} (h : snOk hp s (V, T, f)) (e : ∀ i, i < 3 → f i = g i) : snOk hp s (V, T, g) :=
  ⟨h.1, h.2.1, h.2.2.1, h.2.2.2.1, h.2.2.2.2.1, fun i hi => (h.2.2.2.2.2 i hi).trans (e i hi)⟩
theorem hyC_ty {hp : amH} {n V : Nat} {h : Nat → sR} {sv : Option sR} {T : sT} {f g : Nat → Int} (hY : hyC hp (pM n + 1) (pH n h (V, T, f)) sv) (e : ∀ i, i < 3 → f i = g i) : hyC hp (pM n + 1) (pH n h (V, T, g)) sv := by
  obtain ⟨y1, y2, y3, ⟨F, hA, y4⟩, y5⟩ := hY
  refine ⟨y1, y2, y3, ⟨F, hA, fun k hk => ?_⟩, y5⟩
  have := y4 k hk
  unfold pH at this ⊢
  by_cases g1 : k = pM n
  · rw [if_pos g1] at this ⊢
    exact snOk_ty this e
  · rw [if_neg g1] at this ⊢
    exact this
/-- the kept systems are one more -/
theorem k_cmS {d n : Nat} {h : Nat → sR} {sv : Option sR} {q : sR} {hp : amH} {R : xQ} (hH : bHk 84 bTT hp) (hS : clS hp q n h sv) (hR : ∀ hp1, bHk 84 bTT hp1 → hyF hp hp1 → clS hp1 q (pM n + 1) (pH n h q) sv → R (.inl none) hp1) : xK (d + 3) 184 [.ref 0] hp R :=
  k_cmem hH hS.2.2.2.2 hS.1 hS.2.1 (fun hp1 g1 g2 g3 => hR hp1 g1 g2 ⟨bdOk_fr hS.1 (hyF_n g2 (by omega)) (fun _ => hyF_n g2 (by omega)) (fun _ => hyF_n g2 (by omega)), lsN_fr hS.2.1 (hyF_n g2 (by omega)) (fun _ => hyF_n g2 (by omega)) (fun _ => hyF_n g2 (by omega)), qdN_fr hS.2.2.1 (fun c k hc => g2 c k (by omega)), fun i hi => (hyF_n g2 (by omega)).trans (hS.2.2.2.1 i hi), hyC_ty g3 hS.2.2.2.1⟩)
/-- the board changed and settled -/
theorem k_stS {d V n : Nat} {h : Nat → sR} {sv : Option sR} {T : sT} {ty : Nat → Int} {hp : amH} {R : xQ} (hH : bHk 84 bTT hp) (hB : bdOk hp 3 V T) (ht : ∀ i, i < 3 → rN hp 13 i = ty i) (hY : hyC hp n h sv) (hR : ∀ hp1, bHk 84 bTT hp1 → bFx [3, 5, 7, 49, 50, 51] hp hp1 → clS hp1 (V, T, ty) n h sv → R (.inl none) hp1) : xK (d + 5) 185 [.ref 0] hp R :=
  k_settle3 hH hB (fun hp1 g1 g2 g3 g4 g5 => hR hp1 g1 g2 ⟨g3, g4, g5, fun i hi => (bFx_n g2 (by simp)).trans (ht i hi), hyC_fr hY (fun c k c1 c2 => g2 c k (by simp; omega))⟩)
/-- what the class throws for it -/
def exE (c : Int) (E : Nat) : Prop := (c = 1 ∧ E = 1) ∨ (c = 2 ∧ E = 0) ∨ (c = 3 ∧ E = 2)
theorem u126 : bUp 0 am_m126.1 = true := by decide +kernel
theorem k_126E {d V n : Nat} {h : Nat → sR} {sv : Option sR} {T : sT} {ty : Nat → Int} {hp : amH} {R : xQ} {a b c : Int32} (hH : bHk 84 bTT hp) (hS : clS hp (V, T, ty) n h sv)
    (hT : ∀ E, ¬ aCd V T a.toInt b.toInt c.toInt = 0 → exE (aCd V T a.toInt b.toInt c.toInt) E → R (.inr E) hp)
    (hR : ∀ (z : Int32) hp1, bHk 84 bTT hp1 → cF hp hp1 → aCd V T a.toInt b.toInt c.toInt = 0 → clS hp1 (V, sPut T a.toInt.toNat b.toInt.toNat c.toInt.toNat, ty) (pM n + 1) (pH n h (V, T, ty)) sv → z.toInt = nmT (sPut T a.toInt.toNat b.toInt.toNat c.toInt.toNat) (m3 a.toInt.toNat b.toInt.toNat c.toInt.toNat) → R (.inl (some (.int z))) hp1) : xK (d + 6) 126 [.ref 0, .int a, .int b, .int c] hp R := by
  have hB : bdOk hp 3 V T := hS.1
  have hV := hB.2.1.2.1
  refine xin (M := am_m126) rfl rfl rfl ?_
  refine xald 1 ⟨u126, _, rfl⟩ rfl rfl ?_
  refine xild 2 ⟨u126, _, rfl⟩ rfl rfl ?_
  refine xild 3 ⟨u126, _, rfl⟩ rfl rfl ?_
  refine xild 4 ⟨u126, _, rfl⟩ rfl rfl ?_
  refine xcallT 7 (o := 0) [.int _, .int _, .int _] [] hH ⟨u126, _, rfl⟩ rfl rfl (by decide) rfl (by decide) rfl ⟨rfl, rfl, rfl, rfl⟩ rfl (k_rq3 hH hB.1 (fun g4 => Or.inl ⟨_, rfl, ?_⟩) (fun g4 => Or.inr ⟨_, rfl, rfl, hT 1 (by rw [aCd_1 (by omega)]; omega) (by rw [aCd_1 (by omega)]; exact Or.inl ⟨g4, rfl⟩)⟩) (fun g4 => Or.inr ⟨_, rfl, rfl, hT 0 (by rw [aCd_1 (by omega)]; omega) (by rw [aCd_1 (by omega)]; exact Or.inr (Or.inl ⟨g4, rfl⟩))⟩))
  have k4 := gSet_0.mp g4
  refine xild 8 ⟨u126, _, rfl⟩ rfl rfl ?_
  refine xild 9 ⟨u126, _, rfl⟩ rfl rfl ?_
  refine xild 10 ⟨u126, _, rfl⟩ rfl rfl ?_
  refine xcallS 13 [.int _, .int _, .int _] [] hH ⟨u126, _, rfl⟩ rfl rfl rfl rfl rfl (k_three (x := a.toInt.toNat) (y := b.toInt.toNat) (z := c.toInt.toNat) (by omega) (by omega) (by omega) (by omega) (by omega) (by omega) (fun z10 h10 => ⟨_, rfl, ?_⟩))
  refine xist2 15 ⟨u126, _, rfl⟩ rfl rfl ?_
  refine xald 16 ⟨u126, _, rfl⟩ rfl rfl ?_
  refine xgetD 19 (3) hH ⟨u126, _, rfl⟩ rfl (by decide) (by decide) rfl rfl (by decide) ?_
  refine xild2 21 ⟨u126, _, rfl⟩ rfl rfl ?_
  refine xcallC 24 (o := 3) [.int _] [] hH ⟨u126, _, rfl⟩ rfl rfl (by decide) rfl (by decide) rfl ⟨rfl, rfl, rfl, rfl⟩ rfl (k_takU (Or.inl rfl) hH hB (a := a.toInt.toNat) (b := b.toInt.toNat) (c := c.toInt.toNat) h10 (by omega) (by omega) (by omega) (by omega) (by omega) (by omega) (fun z21 h21 => ⟨_, rfl, ?_⟩))
  refine xif_ne 27 ⟨u126, _, rfl⟩ rfl (fun c24 => ?_) (fun c24 => ?_)
  · have fr : sFree T a.toInt.toNat b.toInt.toNat c.toInt.toNat := by omega
    refine xald 38 ⟨u126, _, rfl⟩ rfl rfl ?_
    refine xcallC 41 (o := 0) [] [] hH ⟨u126, _, rfl⟩ rfl rfl (by decide) rfl (by decide) rfl ⟨rfl, rfl, rfl, rfl⟩ rfl (k_cmS hH hS (fun hp38 hH38 F38 S38 => ⟨_, rfl, ?_⟩))
    refine xald 42 ⟨u126, _, rfl⟩ rfl rfl ?_
    refine xgetD 45 (3) hH38 ⟨u126, _, rfl⟩ rfl (by decide) (by decide) rfl rfl (by decide) ?_
    refine xild2 47 ⟨u126, _, rfl⟩ rfl rfl ?_
    refine xcallC 50 (o := 3) [.int _] [] hH38 ⟨u126, _, rfl⟩ rfl rfl (by decide) rfl (by decide) rfl ⟨rfl, rfl, rfl, rfl⟩ rfl (k_bputU (Or.inl rfl) hH38 S38.1 (a := a.toInt.toNat) (b := b.toInt.toNat) (c := c.toInt.toNat) h10 (by show _ < V; omega) (by show _ < V; omega) (by show _ < V; omega) (by omega) (by omega) (by omega) fr (fun hp47 hH47 F47 B47 => ⟨_, rfl, ?_⟩))
    refine xald 51 ⟨u126, _, rfl⟩ rfl rfl ?_
    refine xcallC 54 (o := 0) [] [] hH47 ⟨u126, _, rfl⟩ rfl rfl (by decide) rfl (by decide) rfl ⟨rfl, rfl, rfl, rfl⟩ rfl (k_stS hH47 (V := V) (T := sPut T a.toInt.toNat b.toInt.toNat c.toInt.toNat) (ty := ty) B47 (fun i hi => (bFx_n F47 (by simp)).trans (S38.2.2.2.1 i hi)) (hyC_fr S38.2.2.2.2 (fun c k c1 c2 => F47 c k (by simp; omega))) (fun hp51 hH51 F51 S51 => ⟨_, rfl, ?_⟩))
    refine xald 55 ⟨u126, _, rfl⟩ rfl rfl ?_
    refine xgetD 58 (3) hH51 ⟨u126, _, rfl⟩ rfl (by decide) (by decide) rfl rfl (by decide) ?_
    refine xild2 60 ⟨u126, _, rfl⟩ rfl rfl ?_
    refine xcallC 63 (o := 3) [.int _] [] hH51 ⟨u126, _, rfl⟩ rfl rfl (by decide) rfl (by decide) rfl ⟨rfl, rfl, rfl, rfl⟩ rfl (k_nof (Or.inl rfl) hH51 S51.1 S51.2.1 (a := a.toInt.toNat) (b := b.toInt.toNat) (c := c.toInt.toNat) h10 (by show _ < V; omega) (by show _ < V; omega) (by show _ < V; omega) (by omega) (by omega) (by omega) (fun z60 h60 => ⟨_, rfl, ?_⟩))
    exact xret ⟨u126, _, rfl⟩ rfl (hR _ hp51 hH51 ((cF_hy F38).trans ((cF_x F47 (by simp)).trans (cF_x F51 (by simp)))) (aCd_2 g4 fr) S51 h60)
  · exact xthr ⟨u126, _, rfl⟩ (by decide) rfl (by decide) (hT 2 (by rw [aCd_3 g4 (by omega)]; decide) (by rw [aCd_3 g4 (by omega)]; exact Or.inr (Or.inr ⟨rfl, rfl⟩)))
