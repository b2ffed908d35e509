/-! ===== the class walks along cycles ===== -/
def y53 : List bY := [.inl (2147483648, 2147483693), .inl (2147483648, 2147483648), .inl (2147483648, 2147483663), .inl (2147483648, 2147483678), .inl (2147483648, 2147483693)]
theorem T53 : bTT 53 = some (32, 4, y53) := rfl
theorem d53 {n : Nat} (h : n < 4) : ∃ hi, bDy (32, 4, y53) n = some (.inl (2147483648, hi)) ∧ (1 ≤ n → 2147483663 ≤ hi) := by
  have : n = 0 ∨ n = 1 ∨ n = 2 ∨ n = 3 := by omega
  rcases this with rfl | rfl | rfl | rfl
  · exact ⟨_, rfl, fun z => by omega⟩
  · exact ⟨_, rfl, fun _ => by decide⟩
  · exact ⟨_, rfl, fun _ => by decide⟩
  · exact ⟨_, rfl, fun _ => by decide⟩
theorem xiald53 {M : amM} {pc a b d : Nat} {L : List (Option Value)} {st : List Value} {hp : amH} {Q : xQ} (q n : Nat) {x : Int32} (hH : bHk 84 bTT hp) (h : xI M pc .iaload a b) (e : q = pc + 1) (hn : x.toInt = (n : Int)) (hl : n < 4) (hw : ∀ z : Int32, z.toInt = rN hp 53 n → xV d M q L (.int z :: st) hp Q) : xV d M pc L (.int x :: .ref 53 :: st) hp Q := by
  obtain ⟨⟨t1, vs⟩, g1, g2, g3, g4⟩ := bHk_at hH (i := 53) (by decide) T53
  have g2 : t1 = 32 := g2
  subst g2
  have g3 : vs.length = 4 := g3
  have hl2 : n < vs.length := by omega
  obtain ⟨y, k1, k2⟩ := g4 n vs[n] (List.getElem?_eq_getElem hl2)
  obtain ⟨hi, e3, -⟩ := d53 hl
  rw [e3] at k1
  cases k1
  obtain ⟨w, ex, -, -⟩ := k2
  obtain ⟨e1, e2⟩ := rw_in (m := vs.length) hn hl2
  refine xstep h (fun cl hl => ⟨cl, ?_, hl⟩) (hw w ?_)
  · subst e
    simp [amDo, amStep, amSc, amALd, g1, e1, e2, amIsI, List.getElem?_eq_getElem hl2, ex]
  · unfold rN bFld
    rw [g1]
    dsimp only
    rw [List.getElem?_eq_getElem hl2, ex]
theorem xiast53 {M : amM} {pc a b d : Nat} {L : List (Option Value)} {st : List Value} {hp : amH} {Q : xQ} (q n : Nat) {x v : Int32} (hH : bHk 84 bTT hp) (h : xI M pc .iastore a b) (e : q = pc + 1) (hn : x.toInt = (n : Int)) (hl : n < 4) (h0 : 1 ≤ n) (h1 : 0 ≤ v.toInt) (h2 : v.toInt ≤ 15)
    (hw : ∀ hp1, bHk 84 bTT hp1 → rU hp hp1 53 n v.toInt → xV d M q L st hp1 Q) : xV d M pc L (.int v :: .int x :: .ref 53 :: st) hp Q := by
  obtain ⟨hi, e3, e4⟩ := d53 hl
  have e4 := e4 h0
  have ho := aOff_eq v
  obtain ⟨vs, g1, g2, g3, k1, k2⟩ := v_set hH (v := .int v) (c := 53) (by decide) T53 e3 hl ⟨v, rfl, by omega, by omega⟩
  refine xstep h (fun cl hl => ⟨cl, ?_, hl⟩) (hw _ k1 ⟨by unfold rN; rw [k2.1], k2.2⟩)
  obtain ⟨e1, e2⟩ := rw_in (m := vs.length) hn (by omega)
  subst e
  simp only [amDo, amStep, amASt, g1, e1, e2, amIsI, and_self, if_true, Option.map_some, id]
theorem u36 : bUp 0 am_m36.1 = true := by decide +kernel
theorem u37 : bUp 0 am_m37.1 = true := by decide +kernel
theorem u38 : bUp 0 am_m38.1 = true := by decide +kernel
theorem u39 : bUp 0 am_m39.1 = true := by decide +kernel
theorem u40 : bUp 0 am_m40.1 = true := by decide +kernel
theorem u41 : bUp 0 am_m41.1 = true := by decide +kernel
theorem b52 {hp : amH} (hH : bHk 84 bTT hp) : 0 ≤ rN hp 52 0 ∧ rN hp 52 0 ≤ 3 := by
  have := rb_c hH (c := 52) (by decide) (show bTT 52 = some (1, 6, [.inl (2147483648, 2147483651), .inl (0, 4294967295), .inl (0, 4294967295), .inr (.inr [53]), .inr (.inr [54]), .inr (.inr [55])]) from rfl) (f := 0) rfl (by decide)
  omega
theorem k_bgn {d n : Nat} {hp : amH} {R : xQ} {a : Int32} (hH : bHk 84 bTT hp) (ha : a.toInt = (n : Int)) (hn : n < 4) (hR : ∀ r : Int32, r.toInt = rN hp 53 n → R (.inl (some (.int r))) hp) : xK d 39 [.ref 52, .int a] hp R := by
  refine xin (M := am_m39) rfl rfl rfl ?_
  refine xild 1 ⟨u39, _, rfl⟩ rfl rfl ?_
  refine xif_lt 4 ⟨u39, _, rfl⟩ rfl (fun c1 => ?_) (fun c1 => ?_)
  · omega
  · refine xild 5 ⟨u39, _, rfl⟩ rfl rfl ?_
    refine xald 6 ⟨u39, _, rfl⟩ rfl rfl ?_
    refine xgetD 9 (53) hH ⟨u39, _, rfl⟩ rfl (by decide) (by decide) rfl rfl (by decide) ?_
    refine xlen 10 hH ⟨u39, _, rfl⟩ rfl (by decide) rfl (by decide) (by decide) (fun z9 h9 => ?_)
    refine xcmp_ge 13 ⟨u39, _, rfl⟩ rfl (fun c10 => ?_) (fun c10 => ?_)
    · omega
    · refine xald 14 ⟨u39, _, rfl⟩ rfl rfl ?_
      refine xgetD 17 (53) hH ⟨u39, _, rfl⟩ rfl (by decide) (by decide) rfl rfl (by decide) ?_
      refine xild 18 ⟨u39, _, rfl⟩ rfl rfl ?_
      refine xiald53 19 (a).toInt.toNat hH ⟨u39, _, rfl⟩ rfl (by omega) (by omega) (fun z18 h18 => ?_)
      refine xgoto ⟨u39, _, rfl⟩ ?_
      exact xret ⟨u39, _, rfl⟩ rfl (hR _ (by rw [h18, show a.toInt.toNat = n by omega]))
theorem k_lngC {d n : Nat} {hp : amH} {R : xQ} {a : Int32} (hH : bHk 84 bTT hp) (ha : a.toInt = (n : Int)) (hn : (n : Int) < rN hp 52 0) (h0 : 0 ≤ rN hp 53 n) (h1 : rN hp 53 n ≤ rN hp 53 (n + 1)) (h2 : rN hp 53 (n + 1) ≤ 15) (hR : ∀ r : Int32, r.toInt = rN hp 53 (n + 1) - rN hp 53 n → R (.inl (some (.int r))) hp) : xK (d + 1) 40 [.ref 52, .int a] hp R := by
  have b := b52 hH
  refine xin (M := am_m40) rfl rfl rfl ?_
  refine xild 1 ⟨u40, _, rfl⟩ rfl rfl ?_
  refine xif_lt 4 ⟨u40, _, rfl⟩ rfl (fun c1 => ?_) (fun c1 => ?_)
  · omega
  · refine xild 5 ⟨u40, _, rfl⟩ rfl rfl ?_
    refine xald 6 ⟨u40, _, rfl⟩ rfl rfl ?_
    refine xgetC 9 hH ⟨u40, _, rfl⟩ rfl (by decide) (by decide) rfl rfl (by decide) (fun z6 h6 => ?_)
    refine xcmp_ge 12 ⟨u40, _, rfl⟩ rfl (fun c9 => ?_) (fun c9 => ?_)
    · omega
    · refine xald 13 ⟨u40, _, rfl⟩ rfl rfl ?_
      refine xild 14 ⟨u40, _, rfl⟩ rfl rfl ?_
      refine xcst 15 (1) ⟨u40, _, rfl⟩ rfl (by decide) (fun z14 h14 => ?_)
      refine xadd 16 _ ⟨u40, _, rfl⟩ rfl rfl (by omega) (by omega) (fun z15 h15 => ?_)
      refine xcallC 19 (o := 52) [.int _] [] hH ⟨u40, _, rfl⟩ rfl rfl (by decide) rfl (by decide) rfl ⟨rfl, rfl, rfl, rfl⟩ rfl (k_bgn hH (n := n + 1) (by omega) (by omega) (fun z16 h16 => ⟨_, rfl, ?_⟩))
      refine xald 20 ⟨u40, _, rfl⟩ rfl rfl ?_
      refine xild 21 ⟨u40, _, rfl⟩ rfl rfl ?_
      refine xcallC 24 (o := 52) [.int _] [.int _] hH ⟨u40, _, rfl⟩ rfl rfl (by decide) rfl (by decide) rfl ⟨rfl, rfl, rfl, rfl⟩ rfl (k_bgn hH ha (by omega) (fun z21 h21 => ⟨_, rfl, ?_⟩))
      refine xsub 25 _ ⟨u40, _, rfl⟩ rfl rfl (by omega) (by omega) (fun z24 h24 => ?_)
      refine xgoto ⟨u40, _, rfl⟩ ?_
      exact xret ⟨u40, _, rfl⟩ rfl (hR _ (by omega))
theorem k_ptC {d n k : Nat} {hp : amH} {R : xQ} {a b : Int32} (hH : bHk 84 bTT hp) (ha : a.toInt = (n : Int)) (hn : n < 4) (hb : b.toInt = (k : Int)) (h0 : 0 ≤ rN hp 53 n) (h1 : rN hp 53 n + k < 30) (hR : ∀ r : Int32, r.toInt = rN hp 54 ((rN hp 53 n).toNat + k) → R (.inl (some (.int r))) hp) : xK (d + 1) 41 [.ref 52, .int a, .int b] hp R := by
  refine xin (M := am_m41) rfl rfl rfl ?_
  refine xald 1 ⟨u41, _, rfl⟩ rfl rfl ?_
  refine xild 2 ⟨u41, _, rfl⟩ rfl rfl ?_
  refine xcallC 5 (o := 52) [.int _] [] hH ⟨u41, _, rfl⟩ rfl rfl (by decide) rfl (by decide) rfl ⟨rfl, rfl, rfl, rfl⟩ rfl (k_bgn hH ha hn (fun z2 h2 => ⟨_, rfl, ?_⟩))
  refine xild 6 ⟨u41, _, rfl⟩ rfl rfl ?_
  refine xadd 7 _ ⟨u41, _, rfl⟩ rfl rfl (by omega) (by omega) (fun z6 h6 => ?_)
  refine xist 8 ⟨u41, _, rfl⟩ rfl rfl ?_
  refine xild 9 ⟨u41, _, rfl⟩ rfl rfl ?_
  refine xif_lt 12 ⟨u41, _, rfl⟩ rfl (fun c9 => ?_) (fun c9 => ?_)
  · omega
  · refine xild 13 ⟨u41, _, rfl⟩ rfl rfl ?_
    refine xald 14 ⟨u41, _, rfl⟩ rfl rfl ?_
    refine xgetD 17 (54) hH ⟨u41, _, rfl⟩ rfl (by decide) (by decide) rfl rfl (by decide) ?_
    refine xlen 18 hH ⟨u41, _, rfl⟩ rfl (by decide) rfl (by decide) (by decide) (fun z17 h17 => ?_)
    refine xcmp_ge 21 ⟨u41, _, rfl⟩ rfl (fun c18 => ?_) (fun c18 => ?_)
    · omega
    · refine xald 22 ⟨u41, _, rfl⟩ rfl rfl ?_
      refine xgetD 25 (54) hH ⟨u41, _, rfl⟩ rfl (by decide) (by decide) rfl rfl (by decide) ?_
      refine xild 26 ⟨u41, _, rfl⟩ rfl rfl ?_
      refine xiald 27 (z6).toInt.toNat hH ⟨u41, _, rfl⟩ rfl (by decide) rfl (by omega) (by omega) (fun z26 h26 => ?_)
      refine xgoto ⟨u41, _, rfl⟩ ?_
      exact xret ⟨u41, _, rfl⟩ rfl (hR _ (by rw [h26, show z6.toInt.toNat = (rN hp 53 n).toNat + k by omega]))
theorem k_nb0 {d : Nat} {hp : amH} {R : xQ} {V x y : Nat} {T : sT} {a b : Int32} (hH : bHk 84 bTT hp) (hB : bdOk hp 3 V T) (ha : a.toInt = (x : Int)) (hb : b.toInt = (y : Int)) (hx : x < V) (hy : y < V) (h : T x y = -1) (hR : ∀ r : Int32, R (.inl (some (.int r))) hp) : xK (d + 1) 10 [.ref 3, .int a, .int b] hp R := by
  have e0 := hB.1
  have hV := hB.2.1.2.1
  refine xin (M := am_m10) rfl rfl rfl ?_
  refine xald 1 ⟨u10, _, rfl⟩ rfl rfl ?_
  refine xild 2 ⟨u10, _, rfl⟩ rfl rfl ?_
  refine xcallC 5 (o := 3) [.int _] [] hH ⟨u10, _, rfl⟩ rfl rfl (by decide) rfl (by decide) rfl ⟨rfl, rfl, rfl, rfl⟩ rfl (k_isp (o := 3) (Or.inl rfl) hH (fun z2 h2 => ⟨_, rfl, ?_⟩))
  refine xif_eq 8 ⟨u10, _, rfl⟩ rfl (fun c5 => ?_) (fun c5 => ?_)
  · omega
  · refine xald 9 ⟨u10, _, rfl⟩ rfl rfl ?_
    refine xild 10 ⟨u10, _, rfl⟩ rfl rfl ?_
    refine xcallC 13 (o := 3) [.int _] [] hH ⟨u10, _, rfl⟩ rfl rfl (by decide) rfl (by decide) rfl ⟨rfl, rfl, rfl, rfl⟩ rfl (k_isp (o := 3) (Or.inl rfl) hH (fun z10 h10 => ⟨_, rfl, ?_⟩))
    refine xif_eq 16 ⟨u10, _, rfl⟩ rfl (fun c13 => ?_) (fun c13 => ?_)
    · omega
    · refine xald 17 ⟨u10, _, rfl⟩ rfl rfl ?_
      refine xild 18 ⟨u10, _, rfl⟩ rfl rfl ?_
      refine xild 19 ⟨u10, _, rfl⟩ rfl rfl ?_
      refine xcallC 22 (o := 3) [.int _, .int _] [] hH ⟨u10, _, rfl⟩ rfl rfl (by decide) rfl (by decide) rfl ⟨rfl, rfl, rfl, rfl⟩ rfl (k_thd (o := 3) (Or.inl rfl) hH hB (fun z19 h19 => ⟨_, rfl, ?_⟩))
      rw [if_pos (by omega), show a.toInt.toNat = x by omega, show b.toInt.toNat = y by omega] at h19
      refine xcst 23 (-1) ⟨u10, _, rfl⟩ rfl (by decide) (fun z22 h22 => ?_)
      refine xcmp_eq 26 ⟨u10, _, rfl⟩ rfl (fun c23 => ?_) (fun c23 => ?_)
      · refine xcst 31 (0) ⟨u10, _, rfl⟩ rfl (by decide) (fun z30 h30 => ?_)
        refine xist 32 ⟨u10, _, rfl⟩ rfl rfl ?_
        refine xild 33 ⟨u10, _, rfl⟩ rfl rfl ?_
        refine xif_eq 36 ⟨u10, _, rfl⟩ rfl (fun c33 => ?_) (fun c33 => ?_)
        · refine xcst 51 (-1) ⟨u10, _, rfl⟩ rfl (by decide) (fun z50 h50 => ?_)
          exact xret ⟨u10, _, rfl⟩ rfl (hR _)
        · omega
      · omega
/-- the class's walk -/
theorem l37 {d V x a b B : Nat} {T : sT} {hp0 : amH} {R : xQ} {wx wB : Int32} (hT : sOk V T) (hB0 : bdOk hp0 3 V T) (hL0 : lsN hp0 3 T 225) (ha : rN hp0 52 1 = (a : Int)) (hb : rN hp0 52 2 = (b : Int)) (aV : a < V) (bV : b < V) (hab : ¬ a = b) (hx : wx.toInt = (x : Int)) (xV' : x < V) (hwB : wB.toInt = (B : Int)) (hB13 : B ≤ 13)
    (hR : ∀ (z : Int32) hp1, bHk 84 bTT hp1 → bFx [54, 55] hp0 hp1 → (∀ i, i < B → rN hp1 54 i = rN hp0 54 i ∧ rJ hp1 55 i = rJ hp0 55 i) → z.toInt = ((cyL T a b x : Nat) : Int) → (0 < cyL T a b x → ∀ k, k < cyL T a b x → rN hp1 54 (B + k) = ((rk T a b x k : Nat) : Int) ∧ rJ hp1 55 (B + k) = ((2 ^ li T (abS a b (pr2 false k)) (rk T a b x k) : Nat) : Int)) → R (.inl (some (.int z))) hp1) :
    ∀ (jj k at_ : Nat) (wat wk : Int32) (v6 : Option Value) (hp : amH), wat.toInt = (at_ : Int) → wk.toInt = (k : Int) → k + jj = 15 → wl T a b false k x = some at_ → clF T a b x jj k = cyL T a b x → (∀ j, 0 < j → j ≤ k → ¬ wl T a b false j x = some x) → bHk 84 bTT hp → bFx [54, 55] hp0 hp → (∀ i, i < B → rN hp 54 i = rN hp0 54 i ∧ rJ hp 55 i = rJ hp0 55 i) → (∀ j, j < k → rN hp 54 (B + j) = ((rk T a b x j : Nat) : Int) ∧ rJ hp 55 (B + j) = ((2 ^ li T (abS a b (pr2 false j)) (rk T a b x j) : Nat) : Int)) → xV (d + 2) am_m37 15 [some (.ref 52), some (.ref 3), some (.int wx), some (.int wB), some (.int wat), some (.int wk), v6] [] hp R := by
  have hV := hT.2.1
  have l35 := trL_35 hT 225
  intro jj
  induction jj with
  | zero =>
    intro k at_ wat wk v6 hp hat hk hj hwl hcl hno hH hF hlo hro
    have h0 : cyL T a b x = 0 := hcl.symm
    refine xild2 17 ⟨u37, _, rfl⟩ rfl rfl ?_
    refine xbip 19 (15) ⟨u37, _, rfl⟩ rfl (by decide) (fun z17 h17 => ?_)
    refine xcmp_ge 22 ⟨u37, _, rfl⟩ rfl (fun c19 => ?_) (fun c19 => ?_)
    · refine xcst 129 (0) ⟨u37, _, rfl⟩ rfl (by decide) (fun z128 h128 => ?_)
      exact xret ⟨u37, _, rfl⟩ rfl (hR _ hp hH hF hlo (by rw [h0]; exact h128) (fun z => by omega))
    · omega
  | succ jj ih =>
    intro k at_ wat wk v6 hp hat hk hj hwl hcl hno hH hF hlo hro
    have e1 : rN hp 52 1 = (a : Int) := (bFx_n hF (by simp)).trans ha
    have e2 : rN hp 52 2 = (b : Int) := (bFx_n hF (by simp)).trans hb
    have hB : bdOk hp 3 V T := bdOk_fr hB0 (bFx_n hF (by simp)) (fun _ => bFx_n hF (by simp)) (fun _ => bFx_n hF (by simp))
    have hL : lsN hp 3 T 225 := lsN_fr hL0 (bFx_n hF (by simp)) (fun _ => bFx_n hF (by simp)) (fun _ => bFx_n hF (by simp))
    have atV := wl_lt hT xV' hwl
    have nxt := wl_next hwl
    have par := pr2_mod k
    have hs : ∃ s : Nat, abS a b (pr2 false k) = s ∧ s < V ∧ ((k % 2 = 0 ∧ s = a) ∨ (k % 2 = 1 ∧ s = b)) := by
      rcases Nat.mod_two_eq_zero_or_one k with g | g
      · exact ⟨a, by rw [par, decide_eq_false (by omega)]; rfl, aV, Or.inl ⟨g, rfl⟩⟩
      · exact ⟨b, by rw [par, decide_eq_true g]; rfl, bV, Or.inr ⟨g, rfl⟩⟩
    obtain ⟨s, es, sV, hs⟩ := hs
    rw [es] at nxt
    have hrk : rk T a b x k = at_ := rk_some hwl
    have cle : clF T a b x (jj + 1) k = if wl T a b false (k + 1) x = some x then k + 1 else if wl T a b false (k + 1) x = none then 0 else clF T a b x jj (k + 1) := rfl
    have go : ∀ z52 : Int32, z52.toInt = (s : Int) → xV (d + 2) am_m37 52 [some (.ref 52), some (.ref 3), some (.int wx), some (.int wB), some (.int wat), some (.int wk), v6] [.int z52] hp R := by
      intro z52 h52
      have rest : ∀ (hp83 : amH) (z79 : Int32), bHk 84 bTT hp83 → bFx [54, 55] hp hp83 → (∀ i, i < B + k → rN hp83 54 i = rN hp 54 i ∧ rJ hp83 55 i = rJ hp 55 i) → rN hp83 54 (B + k) = (at_ : Int) → (¬ T s at_ = -1 → rJ hp83 55 (B + k) = ((2 ^ li T s at_ : Nat) : Int)) → xV (d + 2) am_m37 84 [some (.ref 52), some (.ref 3), some (.int wx), some (.int wB), some (.int wat), some (.int wk), some (.int z52)] [] hp83 R := by
        intro hp83 z79 hH83 F83 lo83 at83 st83
        have e83 : rN hp83 52 2 = (b : Int) := (bFx_n F83 (by simp)).trans e2
        have B83 : bdOk hp83 3 V T := bdOk_fr hB (bFx_n F83 (by simp)) (fun _ => bFx_n F83 (by simp)) (fun _ => bFx_n F83 (by simp))
        have lo0 : ∀ i, i < B → rN hp83 54 i = rN hp0 54 i ∧ rJ hp83 55 i = rJ hp0 55 i := fun i hi => ⟨(lo83 i (by omega)).1.trans (hlo i hi).1, (lo83 i (by omega)).2.trans (hlo i hi).2⟩
        have ro83 : ¬ T s at_ = -1 → ∀ j, j < k + 1 → rN hp83 54 (B + j) = ((rk T a b x j : Nat) : Int) ∧ rJ hp83 55 (B + j) = ((2 ^ li T (abS a b (pr2 false j)) (rk T a b x j) : Nat) : Int) := fun hne j hj2 => by
          by_cases g : j = k
          · rw [g, hrk, es]
            exact ⟨at83, st83 hne⟩
          · rw [(lo83 (B + j) (by omega)).1, (lo83 (B + j) (by omega)).2]
            exact hro j (by omega)
        refine xald 85 ⟨u37, _, rfl⟩ rfl rfl ?_
        refine xild2 87 ⟨u37, _, rfl⟩ rfl rfl ?_
        refine xild2 89 ⟨u37, _, rfl⟩ rfl rfl ?_
        refine xcallC 92 (o := 3) [.int _, .int _] [] hH83 ⟨u37, _, rfl⟩ rfl rfl (by decide) rfl (by decide) rfl ⟨rfl, rfl, rfl, rfl⟩ rfl (k_thd (o := 3) (Or.inl rfl) hH83 B83 (fun z89 h89 => ⟨_, rfl, ?_⟩))
        rw [if_pos (by omega), show z52.toInt.toNat = s by omega, show wat.toInt.toNat = at_ by omega] at h89
        refine xist2 94 ⟨u37, _, rfl⟩ rfl rfl ?_
        refine xild2 96 ⟨u37, _, rfl⟩ rfl rfl ?_
        refine xcst 97 (-1) ⟨u37, _, rfl⟩ rfl (by decide) (fun z96 h96 => ?_)
        refine xcmp_ne 100 ⟨u37, _, rfl⟩ rfl (fun c97 => ?_) (fun c97 => ?_)
        · obtain ⟨w, ew, -, lw, -⟩ := sOk_at hT (a := s) (b := at_) rfl (by omega)
          have wV := (st_in hT ew).2.2.2.1
          rw [if_neg (by omega), ew, Int.toNat_natCast] at nxt
          refine xild2 104 ⟨u37, _, rfl⟩ rfl rfl ?_
          refine xild 105 ⟨u37, _, rfl⟩ rfl rfl ?_
          refine xcmp_ne 108 ⟨u37, _, rfl⟩ rfl (fun c105 => ?_) (fun c105 => ?_)
          · have nx : ¬ wl T a b false (k + 1) x = some x := fun z => by rw [nxt] at z; have := Option.some.inj z; omega
            rw [cle, if_neg nx, if_neg (by rw [nxt]; simp)] at hcl
            refine xinc 125 (1) ⟨u37, _, rfl⟩ rfl rfl rfl (by decide) (by omega) (by omega) (fun z122 h122 => ?_)
            refine xgoto ⟨u37, _, rfl⟩ ?_
            exact ih (k + 1) w _ z122 _ hp83 (by omega) (by omega) (by omega) nxt hcl (fun j j1 j2 => by
              by_cases q : j = k + 1
              · rw [q]; exact nx
              · exact hno j j1 (by omega)) hH83 (hF.trans F83) lo0 (ro83 (by omega))
          · refine xild2 110 ⟨u37, _, rfl⟩ rfl rfl ?_
            refine xald 111 ⟨u37, _, rfl⟩ rfl rfl ?_
            refine xgetC 114 hH83 ⟨u37, _, rfl⟩ rfl (by decide) (by decide) rfl rfl (by decide) (fun z111 h111 => ?_)
            refine xcmp_ne 117 ⟨u37, _, rfl⟩ rfl (fun c114 => ?_) (fun c114 => ?_)
            · exfalso
              have ke : k % 2 = 0 := by omega
              have wx1 : w = x := by omega
              rw [wx1] at nxt
              rw [show k + 1 = 2 * (k / 2) + 1 by omega] at nxt
              exact wl_odd hT _ _ _ nxt
            · have wx1 : w = x := by omega
              rw [wx1] at nxt
              rw [cle, if_pos nxt] at hcl
              refine xild2 119 ⟨u37, _, rfl⟩ rfl rfl ?_
              refine xcst 120 (1) ⟨u37, _, rfl⟩ rfl (by decide) (fun z119 h119 => ?_)
              refine xadd 121 _ ⟨u37, _, rfl⟩ rfl rfl (by omega) (by omega) (fun z120 h120 => ?_)
              exact xret ⟨u37, _, rfl⟩ rfl (hR _ hp83 hH83 (hF.trans F83) lo0 (by rw [← hcl]; omega) (fun _ j hj2 => ro83 (by omega) j (by omega)))
        · rw [if_pos (by omega)] at nxt
          rw [cle, nxt, if_neg (by simp), if_pos rfl] at hcl
          refine xcst 101 (0) ⟨u37, _, rfl⟩ rfl (by decide) (fun z100 h100 => ?_)
          exact xret ⟨u37, _, rfl⟩ rfl (hR _ hp83 hH83 (hF.trans F83) lo0 (by rw [← hcl]; exact h100) (fun z => by omega))
      by_cases hne : T s at_ = -1
      · refine xist2 54 ⟨u37, _, rfl⟩ rfl rfl ?_
        refine xald 55 ⟨u37, _, rfl⟩ rfl rfl ?_
        refine xgetD 58 (54) hH ⟨u37, _, rfl⟩ rfl (by decide) (by decide) rfl rfl (by decide) ?_
        refine xild 59 ⟨u37, _, rfl⟩ rfl rfl ?_
        refine xild2 61 ⟨u37, _, rfl⟩ rfl rfl ?_
        refine xadd 62 _ ⟨u37, _, rfl⟩ rfl rfl (by omega) (by omega) (fun z61 h61 => ?_)
        refine xild2 64 ⟨u37, _, rfl⟩ rfl rfl ?_
        refine xiast 65 (z61).toInt.toNat hH ⟨u37, _, rfl⟩ rfl (by decide) rfl (by omega) (by omega) (by omega) (by omega) (fun hp64 hH64 U64 => ?_)
        have s64 := U64.1
        have F64 : bFx [54] hp hp64 := bFx_U U64 (by simp)
        have B64 : bdOk hp64 3 V T := bdOk_fr hB (bFx_n F64 (by simp)) (fun _ => bFx_n F64 (by simp)) (fun _ => bFx_n F64 (by simp))
        have L64 : lsN hp64 3 T 225 := lsN_fr hL (bFx_n F64 (by simp)) (fun _ => bFx_n F64 (by simp)) (fun _ => bFx_n F64 (by simp))
        refine xald 66 ⟨u37, _, rfl⟩ rfl rfl ?_
        refine xgetD 69 (55) hH64 ⟨u37, _, rfl⟩ rfl (by decide) (by decide) rfl rfl (by decide) ?_
        refine xild 70 ⟨u37, _, rfl⟩ rfl rfl ?_
        refine xild2 72 ⟨u37, _, rfl⟩ rfl rfl ?_
        refine xadd 73 _ ⟨u37, _, rfl⟩ rfl rfl (by omega) (by omega) (fun z72 h72 => ?_)
        refine xlcst 74 (1) ⟨u37, _, rfl⟩ rfl (by decide) (fun z73 h73 => ?_)
        refine xald 75 ⟨u37, _, rfl⟩ rfl rfl ?_
        refine xild2 77 ⟨u37, _, rfl⟩ rfl rfl ?_
        refine xild2 79 ⟨u37, _, rfl⟩ rfl rfl ?_
        refine xcallC 82 (o := 3) [.int _, .int _] [.long _, .int _, .ref 55] hH64 ⟨u37, _, rfl⟩ rfl rfl (by decide) rfl (by decide) rfl ⟨rfl, rfl, rfl, rfl⟩ rfl (k_nb0 (d := d) hH64 B64 (by omega) hat sV atV hne (fun z79 => ⟨_, rfl, ?_⟩))
        refine xlshl 83 ⟨u37, _, rfl⟩ rfl ?_
        refine xlast 84 (z72).toInt.toNat hH64 ⟨u37, _, rfl⟩ rfl (by decide) rfl (by omega) (by omega) (fun hp83 hH83 U83 => ?_)
        refine rest hp83 z79 hH83 ((F64.mono (by simp)).trans ((bY_bx (W := [55]) U83 (by simp)).mono (by simp))) (fun i hi => ⟨?_, ?_⟩) ?_ (fun z => absurd hne z)
        · rw [rV_ne U83 (by omega), rU_ne U64 (by omega)]
        · rw [rJ_eq (U83.2 55 i (by omega)), rJ_ne U64 (by omega)]
        · rw [rV_ne U83 (by omega), show B + k = z61.toInt.toNat by omega, U64.1]
          exact hat
      · refine xist2 54 ⟨u37, _, rfl⟩ rfl rfl ?_
        refine xald 55 ⟨u37, _, rfl⟩ rfl rfl ?_
        refine xgetD 58 (54) hH ⟨u37, _, rfl⟩ rfl (by decide) (by decide) rfl rfl (by decide) ?_
        refine xild 59 ⟨u37, _, rfl⟩ rfl rfl ?_
        refine xild2 61 ⟨u37, _, rfl⟩ rfl rfl ?_
        refine xadd 62 _ ⟨u37, _, rfl⟩ rfl rfl (by omega) (by omega) (fun z61 h61 => ?_)
        refine xild2 64 ⟨u37, _, rfl⟩ rfl rfl ?_
        refine xiast 65 (z61).toInt.toNat hH ⟨u37, _, rfl⟩ rfl (by decide) rfl (by omega) (by omega) (by omega) (by omega) (fun hp64 hH64 U64 => ?_)
        have s64 := U64.1
        have F64 : bFx [54] hp hp64 := bFx_U U64 (by simp)
        have B64 : bdOk hp64 3 V T := bdOk_fr hB (bFx_n F64 (by simp)) (fun _ => bFx_n F64 (by simp)) (fun _ => bFx_n F64 (by simp))
        have L64 : lsN hp64 3 T 225 := lsN_fr hL (bFx_n F64 (by simp)) (fun _ => bFx_n F64 (by simp)) (fun _ => bFx_n F64 (by simp))
        refine xald 66 ⟨u37, _, rfl⟩ rfl rfl ?_
        refine xgetD 69 (55) hH64 ⟨u37, _, rfl⟩ rfl (by decide) (by decide) rfl rfl (by decide) ?_
        refine xild 70 ⟨u37, _, rfl⟩ rfl rfl ?_
        refine xild2 72 ⟨u37, _, rfl⟩ rfl rfl ?_
        refine xadd 73 _ ⟨u37, _, rfl⟩ rfl rfl (by omega) (by omega) (fun z72 h72 => ?_)
        refine xlcst 74 (1) ⟨u37, _, rfl⟩ rfl (by decide) (fun z73 h73 => ?_)
        refine xald 75 ⟨u37, _, rfl⟩ rfl rfl ?_
        refine xild2 77 ⟨u37, _, rfl⟩ rfl rfl ?_
        refine xild2 79 ⟨u37, _, rfl⟩ rfl rfl ?_
        refine xcallC 82 (o := 3) [.int _, .int _] [.long _, .int _, .ref 55] hH64 ⟨u37, _, rfl⟩ rfl rfl (by decide) rfl (by decide) rfl ⟨rfl, rfl, rfl, rfl⟩ rfl (k_nbc (d := d) (o := 3) (Or.inl rfl) hH64 B64 L64 (by omega) hat hne (fun z79 t79 a79 b79 h79 => ⟨_, rfl, ?_⟩))
        refine xlshl 83 ⟨u37, _, rfl⟩ rfl ?_
        refine xlast 84 (z72).toInt.toNat hH64 ⟨u37, _, rfl⟩ rfl (by decide) rfl (by omega) (by omega) (fun hp83 hH83 U83 => ?_)
        refine rest hp83 z79 hH83 ((F64.mono (by simp)).trans ((bY_bx (W := [55]) U83 (by simp)).mono (by simp))) (fun i hi => ⟨?_, ?_⟩) ?_ (fun _ => ?_)
        · rw [rV_ne U83 (by omega), rU_ne U64 (by omega)]
        · rw [rJ_eq (U83.2 55 i (by omega)), rJ_ne U64 (by omega)]
        · rw [rV_ne U83 (by omega), show B + k = z61.toInt.toNat by omega, U64.1]
          exact hat
        · have et : li T s at_ = t79 := by
            unfold li
            rw [← b79]
            exact (trL_get 225 t79 a79).2.2
          rw [show B + k = z72.toInt.toNat by omega, rV_J U83, et]
          exact j_shl h73 h79 (by omega)
    refine xild2 17 ⟨u37, _, rfl⟩ rfl rfl ?_
    refine xbip 19 (15) ⟨u37, _, rfl⟩ rfl (by decide) (fun z17 h17 => ?_)
    refine xcmp_ge 22 ⟨u37, _, rfl⟩ rfl (fun c19 => ?_) (fun c19 => ?_)
    · omega
    · refine xild 23 ⟨u37, _, rfl⟩ rfl rfl ?_
      refine xild2 25 ⟨u37, _, rfl⟩ rfl rfl ?_
      refine xadd 26 _ ⟨u37, _, rfl⟩ rfl rfl (by omega) (by omega) (fun z25 h25 => ?_)
      refine xald 27 ⟨u37, _, rfl⟩ rfl rfl ?_
      refine xgetD 30 (54) hH ⟨u37, _, rfl⟩ rfl (by decide) (by decide) rfl rfl (by decide) ?_
      refine xlen 31 hH ⟨u37, _, rfl⟩ rfl (by decide) rfl (by decide) (by decide) (fun z30 h30 => ?_)
      refine xcmp_ge 34 ⟨u37, _, rfl⟩ rfl (fun c31 => ?_) (fun c31 => ?_)
      · omega
      · refine xild2 36 ⟨u37, _, rfl⟩ rfl rfl ?_
        refine xcst 37 (2) ⟨u37, _, rfl⟩ rfl (by decide) (fun z36 h36 => ?_)
        refine xrem 38 (Int32.toInt wk % 2) ⟨u37, _, rfl⟩ rfl (by omega) (by omega) (by rw [h36]) (fun z37 h37 => ?_)
        refine xif_ne 41 ⟨u37, _, rfl⟩ rfl (fun c38 => ?_) (fun c38 => ?_)
        · refine xald 49 ⟨u37, _, rfl⟩ rfl rfl ?_
          refine xgetC 52 hH ⟨u37, _, rfl⟩ rfl (by decide) (by decide) rfl rfl (by decide) (fun z49 h49 => ?_)
          exact go _ (by omega)
        · refine xald 42 ⟨u37, _, rfl⟩ rfl rfl ?_
          refine xgetC 45 hH ⟨u37, _, rfl⟩ rfl (by decide) (by decide) rfl rfl (by decide) (fun z42 h42 => ?_)
          refine xgoto ⟨u37, _, rfl⟩ ?_
          exact go _ (by omega)
