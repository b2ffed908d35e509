/-! ===== ways by hand: the text's bytes, on both sides ===== -/
theorem x_fI {hp : amH} (hH : bHk 84 bTT hp) {c t n f lo hi : Nat} {ys : List bY} (hc : c < 84) (hT : bTT c = some (t, n, ys)) (hy : bDy (t, n, ys) f = some (.inl (lo, hi))) (hm : f < n) : ∃ vs, hp[c]? = some (t, vs) ∧ f < vs.length ∧ ∃ x, vs[f]? = some (.int x) ∧ x.toInt = rN hp c f ∧ lo ≤ aOff x ∧ aOff x ≤ hi := by
  obtain ⟨⟨t1, vs⟩, g1, g2, g3, g4⟩ := bHk_at hH hc hT
  have g2 : t1 = t := g2
  subst g2
  have g3 : vs.length = n := g3
  have hl : f < vs.length := by omega
  obtain ⟨y, k1, k2⟩ := g4 f vs[f] (List.getElem?_eq_getElem hl)
  rw [hy] at k1
  cases k1
  obtain ⟨x, e1, x1, x2⟩ := k2
  refine ⟨vs, g1, hl, x, by rw [List.getElem?_eq_getElem hl, e1], ?_, x1, x2⟩
  unfold rN bFld
  rw [g1]
  dsimp only
  rw [List.getElem?_eq_getElem hl, e1]
theorem x_fR {hp : amH} (hH : bHk 84 bTT hp) {c t n f j : Nat} {ys : List bY} (hc : c < 84) (hT : bTT c = some (t, n, ys)) (hy : bDy (t, n, ys) f = some (.inr (.inr [j]))) (hm : f < n) : ∃ vs, hp[c]? = some (t, vs) ∧ vs[f]? = some (.ref j) := by
  obtain ⟨⟨t1, vs⟩, g1, g2, g3, g4⟩ := bHk_at hH hc hT
  have g2 : t1 = t := g2
  subst g2
  have g3 : vs.length = n := g3
  have hl : f < vs.length := by omega
  obtain ⟨y, k1, k2⟩ := g4 f vs[f] (List.getElem?_eq_getElem hl)
  rw [hy] at k1
  cases k1
  obtain ⟨u, e1, -, e3⟩ := k2
  have hu : u = j := by simpa using e3
  exact ⟨vs, g1, by rw [List.getElem?_eq_getElem hl, e1, hu]⟩
theorem rb_c {hp : amH} (hH : bHk 84 bTT hp) {c t n f lo hi : Nat} {ys : List bY} (hc : c < 84) (hT : bTT c = some (t, n, ys)) (hy : bDy (t, n, ys) f = some (.inl (lo, hi))) (hm : f < n) : (lo : Int) - 2147483648 ≤ rN hp c f ∧ rN hp c f ≤ (hi : Int) - 2147483648 := by
  obtain ⟨vs, -, -, x, -, h2, h3, h4⟩ := x_fI hH hc hT hy hm
  have := aOff_eq x
  omega
/-- a number of a cell written -/
theorem x_set {hp : amH} (hH : bHk 84 bTT hp) {c t n f lo hi : Nat} {ys : List bY} {vs : List Value} {x : Int32} (hT : bTT c = some (t, n, ys)) (g1 : hp[c]? = some (t, vs)) (g2 : f < vs.length) (hy : bDy (t, n, ys) f = some (.inl (lo, hi))) (h1 : lo ≤ aOff x) (h2 : aOff x ≤ hi) (hc : c < 84) : bHk 84 bTT (hp.set c (t, vs.set f (.int x))) ∧ rU hp (hp.set c (t, vs.set f (.int x))) c f x.toInt := by
  obtain ⟨c0, q1, q2⟩ := bHk_at hH hc hT
  cases q1.symm.trans g1
  refine ⟨bHk_set hH hT (bHc_set q2 hy ⟨x, rfl, h1, h2⟩), ?_, fun c1 i1 hne => ?_⟩
  · unfold rN
    rw [bFld_set g1, if_pos rfl]
    dsimp only
    rw [List.getElem?_set_self g2]
  · rw [bFld_set g1]
    split
    · next z =>
      subst z
      dsimp only
      rw [List.getElem?_set_ne (fun z => hne ⟨rfl, z.symm⟩)]
      unfold bFld
      rw [g1]
    · rfl
section XD
variable {M : amM} {pc a b d : Nat} {L : List (Option Value)} {st : List Value} {hp : amH} {Q : xQ}
theorem xgetC (q : Nat) {c t n f lo hi : Nat} {ys : List bY} {i : _} (hH : bHk 84 bTT hp) (h : xI M pc (.getfield i) t f) (e : q = pc + 3) (hc : c < 84) (h32 : t < 32) (hT : bTT c = some (t, n, ys)) (hy : bDy (t, n, ys) f = some (.inl (lo, hi))) (hm : f < n) (hw : ∀ z : Int32, z.toInt = rN hp c f → xV d M q L (.int z :: st) hp Q) : xV d M pc L (.ref c :: st) hp Q := by
  obtain ⟨vs, h1, -, x, h2, h3, -⟩ := x_fI hH hc hT hy hm
  refine xstep h (fun cl hl => ⟨cl, ?_, hl⟩) (hw x h3)
  subst e
  simp [amDo, amStep, amFGet, h1, h2, h32]
theorem xgetD (q j : Nat) {c t n f : Nat} {ys : List bY} {i : _} (hH : bHk 84 bTT hp) (h : xI M pc (.getfield i) t f) (e : q = pc + 3) (hc : c < 84) (h32 : t < 32) (hT : bTT c = some (t, n, ys)) (hy : bDy (t, n, ys) f = some (.inr (.inr [j]))) (hm : f < n) (hw : xV d M q L (.ref j :: st) hp Q) : xV d M pc L (.ref c :: st) hp Q := by
  obtain ⟨vs, h1, h2⟩ := x_fR hH hc hT hy hm
  refine xstep h (fun cl hl => ⟨cl, ?_, hl⟩) hw
  subst e
  simp [amDo, amStep, amFGet, h1, h2, h32]
theorem xputC (q : Nat) {c t n f lo hi : Nat} {ys : List bY} {i : _} {x : Int32} (hH : bHk 84 bTT hp) (h : xI M pc (.putfield i) t f) (e : q = pc + 3) (hc : c < 84) (h32 : t < 32) (hT : bTT c = some (t, n, ys)) (hy : bDy (t, n, ys) f = some (.inl (lo, hi))) (hm : f < n) (hn : narrow (amFty t f) (.int x) = .int x ∧ fits (amFty t f) (.int x) = true) (h1 : (lo : Int) - 2147483648 ≤ x.toInt) (h2 : x.toInt ≤ (hi : Int) - 2147483648)
    (hw : ∀ hp1, bHk 84 bTT hp1 → rU hp hp1 c f x.toInt → xV d M q L st hp1 Q) : xV d M pc L (.int x :: .ref c :: st) hp Q := by
  obtain ⟨vs, g1, g2, -⟩ := x_fI hH hc hT hy hm
  have ho := aOff_eq x
  obtain ⟨k1, k2⟩ := x_set hH (x := x) hT g1 g2 hy (by omega) (by omega) hc
  refine xstep h (fun cl hl => ⟨cl, ?_, hl⟩) (hw _ k1 k2)
  subst e
  simp [amDo, amStep, amFSet, g1, g2, hn.1, hn.2, h32]
theorem xi2b (q : Nat) {x : Int32} (h : xI M pc .i2b a b) (e : q = pc + 1) (hw : ∀ z : Int32, xV d M q L (.int z :: st) hp Q) : xV d M pc L (.int x :: st) hp Q := by
  refine xstep h (fun cl hl => ⟨cl, ?_, hl⟩) (hw x.toInt8.toInt32)
  subst e
  simp [amDo, amStep, amI]
theorem xlenB (q : Nat) (hH : bHk 84 bTT hp) (h : xI M pc .arraylength a b) (e : q = pc + 1) (hw : ∀ z : Int32, z.toInt = 600 → xV d M q L (.int z :: st) hp Q) : xV d M pc L (.ref 2 :: st) hp Q := by
  obtain ⟨⟨t1, vs⟩, g1, g2, g3, -⟩ := bHk_at hH (i := 2) (by decide) (D := (34, 600, [.inl (2147483520, 2147483775)])) rfl
  have g2 : t1 = 34 := g2
  subst g2
  have g3 : vs.length = 600 := g3
  refine xstep h (fun cl hl => ⟨cl, ?_, hl⟩) (hw (Int32.ofNat 600) rfl)
  subst e
  simp [amDo, amStep, amScLen, amLen, g1, g3]
theorem xbast (q m : Nat) {x v : Int32} (hH : bHk 84 bTT hp) (h : xI M pc .bastore a b) (e : q = pc + 1) (hn : x.toInt = (m : Int)) (hl : m < 600)
    (hw : ∀ hp1, bHk 84 bTT hp1 → bFr [(2, 999)] hp hp1 → xV d M q L st hp1 Q) : xV d M pc L (.int v :: .int x :: .ref 2 :: st) hp Q := by
  obtain ⟨z, z1, z2, z3⟩ := bNarB_s v
  have hy : bDy (34, 600, [.inl (2147483520, 2147483775)]) m = some (.inl (2147483520, 2147483775)) := rfl
  obtain ⟨vs, g1, g2, -⟩ := x_fI hH (c := 2) (by decide) rfl hy hl
  obtain ⟨k1, k2⟩ := x_set hH (x := z) (c := 2) rfl g1 g2 hy z2 z3 (by decide)
  obtain ⟨e1, e2⟩ := rw_in (m := vs.length) hn g2
  refine xstep h (fun cl hl => ⟨cl, ?_, hl⟩) (hw _ k1 (rU_fr k2 (bIn_all (by decide) _)))
  subst e
  simp only [amDo, amStep, amASt, g1, e2, e1, amIsI, z1, and_self, if_true, Option.map_some]
/-- a call of a method by an object of its class -/
theorem xcallC (q : Nat) {k o t n : Nat} {ys : List bY} {j : _} {N : amM} (av rest : List Value) {st : List Value} (hH : bHk 84 bTT hp) (h : xI M pc (.invokevirtual j) k 0) (e : q = pc + 3) (hst : st = (Value.ref o :: av).reverse ++ rest) (ho : o < 84) (hT : bTT o = some (t, n, ys)) (h32 : t < 32) (hN : amGG k = some N)
    (hc : N.2.2.1 = av.length + 1 ∧ N.2.2.2.2.2.2 = t ∧ Nat.ble (((Value.ref o :: av).reverse.map fun v => v.category).sum) N.2.1 = true ∧ Nat.ble ((rest.map fun v => v.category).sum) 8 = true) (hr : amOkS 84 rest = true)
    (hk : xK d k (.ref o :: av) hp (fun y hp1 => ∃ v, y = .inl v ∧ xV (d + 1) M q L (v.toList ++ rest) hp1 Q)) : xV (d + 1) M pc L st hp Q := by
  intro cl hl
  obtain ⟨hu, r, hr2⟩ := h
  obtain ⟨N', hN', hw⟩ := hk
  rw [hN] at hN'
  cases hN'
  rw [hr2]
  obtain ⟨c1, c2, c3, c4⟩ := hc
  have c3 := Nat.le_of_ble_eq_true c3
  have c4 := Nat.le_of_ble_eq_true c4
  have hlen : (Value.ref o :: av).reverse.length = N.2.2.1 := by rw [List.length_reverse, c1]; rfl
  have t1 : st.take N.2.2.1 = (Value.ref o :: av).reverse := by rw [hst, ← hlen, List.take_left]
  have t2 : st.drop N.2.2.1 = rest := by rw [hst, ← hlen, List.drop_left]
  have hrec : amRecv 0 N.2.2.2.2.2.2 hp (.ref o :: av) = true := by
    obtain ⟨⟨t3, vs⟩, g1, g2, -, -⟩ := bHk_at hH ho hT
    have g2 : t3 = t := g2
    subst g2
    unfold amRecv
    dsimp only
    rw [if_pos rfl, g1, c2]
    exact decide_eq_true ⟨rfl, h32⟩
  have hcall : amCall amGG 0 k cl st hp = some (.inr (.inr (.inr (k, .ref o :: av, rest)))) := by
    unfold amCall
    rw [hN]
    dsimp only
    rw [t1, t2, List.reverse_reverse, if_pos]
    refine ⟨by rw [hst, List.length_append]; omega, c3, ?_, c4⟩
    rw [hH.1, hl.1, hr, hrec]
    rfl
  have hdo : amDo amGG M none (.invokevirtual j) k 0 pc cl st hp = some (.inr (.inr (.inr (k, .ref o :: av, rest)))) := by
    simp only [amDo]
    rw [if_neg (by decide), if_neg (by decide)]
    exact hcall
  refine bWp_call (q := (pc, .invokevirtual j, k, 0)) hdo hN (bWp_mono hw (fun y hp1 hy => ?_))
  obtain ⟨v, rfl, hy⟩ := hy
  dsimp only
  rw [bUp_next hu (xI_suf hr2), ← e]
  exact hy cl hl
end XD
theorem u75 : bUp 0 am_m75.1 = true := by decide +kernel
theorem u76 : bUp 0 am_m76.1 = true := by decide +kernel
theorem u113 : bUp 0 am_m113.1 = true := by decide +kernel
theorem u114 : bUp 0 am_m114.1 = true := by decide +kernel
theorem u238 : bUp 0 am_m238.1 = true := by decide +kernel
theorem u239 : bUp 0 am_m239.1 = true := by decide +kernel
theorem u240 : bUp 0 am_m240.1 = true := by decide +kernel
theorem b10 {hp : amH} (hH : bHk 84 bTT hp) : 0 ≤ rN hp 1 0 ∧ rN hp 1 0 ≤ 600 := by
  have := rb_c hH (c := 1) (f := 0) (by decide) rfl rfl (by decide)
  omega
def wTx : List (Nat × Nat) := [(1, 0), (2, 999)]
theorem k_hr {d : Nat} {hp : amH} {R : xQ} (hH : bHk 84 bTT hp) (hR : ∀ z : Int32, ((z.toInt = 1 ∧ rN hp 1 0 ≤ 580) ∨ (z.toInt = 0 ∧ 580 < rN hp 1 0)) → R (.inl (some (.int z))) hp) : xK d 75 [.ref 1] hp R := by
  have b1 := b10 hH
  refine xin (M := am_m75) rfl rfl rfl ?_
  refine xald 1 ⟨u75, _, rfl⟩ rfl rfl ?_
  refine xgetC 4 hH ⟨u75, _, rfl⟩ rfl (by decide) (by decide) rfl rfl (by decide) (fun z1 h1 => ?_)
  refine xbip 6 (20) ⟨u75, _, rfl⟩ rfl (by decide) (fun z4 h4 => ?_)
  refine xadd 7 _ ⟨u75, _, rfl⟩ rfl rfl (by omega) (by omega) (fun z6 h6 => ?_)
  refine xsip 10 (600) ⟨u75, _, rfl⟩ rfl (by decide) (fun z7 h7 => ?_)
  refine xcmp_gt 13 ⟨u75, _, rfl⟩ rfl (fun c10 => ?_) (fun c10 => ?_)
  · refine xcst 18 (0) ⟨u75, _, rfl⟩ rfl (by decide) (fun z17 h17 => ?_)
    exact xretB ⟨u75, _, rfl⟩ rfl (by omega) (hR _ (by omega))
  · refine xcst 14 (1) ⟨u75, _, rfl⟩ rfl (by decide) (fun z13 h13 => ?_)
    refine xgoto ⟨u75, _, rfl⟩ ?_
    exact xretB ⟨u75, _, rfl⟩ rfl (by omega) (hR _ (by omega))
theorem l76 {d : Nat} {hp0 : amH} {R : xQ} {x : Int32} (h0 : rN hp0 1 0 ≤ 596) (hR : ∀ hp1, bHk 84 bTT hp1 → bFr wTx hp0 hp1 → rN hp1 1 0 = rN hp0 1 0 + 4 → R (.inl none) hp1) :
    ∀ (jj : Nat) (k : Int32) (hp : amH), jj ≤ 4 → k.toInt = 8 * (jj : Int) - 8 → bHk 84 bTT hp → bFr wTx hp0 hp → rN hp 1 0 = rN hp0 1 0 + 4 - (jj : Int) → xV d am_m76 3 [some (.ref 1), some (.int x), some (.int k)] [] hp R := by
  intro jj
  induction jj with
  | zero =>
    intro k hp _ hk hH hF hn
    refine xild 4 ⟨u76, _, rfl⟩ rfl rfl ?_
    refine xif_lt 7 ⟨u76, _, rfl⟩ rfl (fun c4 => ?_) (fun c4 => ?_)
    · exact xretV ⟨u76, _, rfl⟩ rfl (hR hp hH hF (by omega))
    · omega
  | succ jj ih =>
    intro k hp hj hk hH hF hn
    have b1 := b10 hH
    refine xild 4 ⟨u76, _, rfl⟩ rfl rfl ?_
    refine xif_lt 7 ⟨u76, _, rfl⟩ rfl (fun c4 => ?_) (fun c4 => ?_)
    · omega
    · refine xald 8 ⟨u76, _, rfl⟩ rfl rfl ?_
      refine xgetC 11 hH ⟨u76, _, rfl⟩ rfl (by decide) (by decide) rfl rfl (by decide) (fun z8 h8 => ?_)
      refine xald 12 ⟨u76, _, rfl⟩ rfl rfl ?_
      refine xgetD 15 2 hH ⟨u76, _, rfl⟩ rfl (by decide) (by decide) rfl rfl (by decide) ?_
      refine xlenB 16 hH ⟨u76, _, rfl⟩ rfl (fun z15 h15 => ?_)
      refine xcmp_ge 19 ⟨u76, _, rfl⟩ rfl (fun c16 => ?_) (fun c16 => ?_)
      · omega
      · refine xald 20 ⟨u76, _, rfl⟩ rfl rfl ?_
        refine xgetD 23 2 hH ⟨u76, _, rfl⟩ rfl (by decide) (by decide) rfl rfl (by decide) ?_
        refine xald 24 ⟨u76, _, rfl⟩ rfl rfl ?_
        refine xgetC 27 hH ⟨u76, _, rfl⟩ rfl (by decide) (by decide) rfl rfl (by decide) (fun z24 h24 => ?_)
        refine xild 28 ⟨u76, _, rfl⟩ rfl rfl ?_
        refine xild 29 ⟨u76, _, rfl⟩ rfl rfl ?_
        refine xshr 30 ⟨u76, _, rfl⟩ rfl ?_
        refine xi2b 31 ⟨u76, _, rfl⟩ rfl (fun z30 => ?_)
        refine xbast 32 z24.toInt.toNat hH ⟨u76, _, rfl⟩ rfl (by omega) (by omega) (fun hp31 hH31 F31 => ?_)
        have n31 : rN hp31 1 0 = rN hp 1 0 := r_fr F31 rfl
        refine xald 33 ⟨u76, _, rfl⟩ rfl rfl ?_
        refine xdup 34 ⟨u76, _, rfl⟩ rfl rfl ?_
        refine xgetC 37 hH31 ⟨u76, _, rfl⟩ rfl (by decide) (by decide) rfl rfl (by decide) (fun z34 h34 => ?_)
        refine xcst 38 (1) ⟨u76, _, rfl⟩ rfl (by decide) (fun z37 h37 => ?_)
        refine xadd 39 _ ⟨u76, _, rfl⟩ rfl rfl (by omega) (by omega) (fun z38 h38 => ?_)
        refine xputC 42 hH31 ⟨u76, _, rfl⟩ rfl (by decide) (by decide) rfl rfl (by decide) ⟨rfl, rfl⟩ (by omega) (by omega) (fun hp39 hH39 U39 => ?_)
        have s39 := U39.1
        refine xinc 45 (-8) ⟨u76, _, rfl⟩ rfl rfl rfl (by decide) (by omega) (by omega) (fun z42 h42 => ?_)
        refine xgoto ⟨u76, _, rfl⟩ ?_
        exact ih _ hp39 (by omega) (by omega) hH39 ((hF.trans (bFr_sub F31 (by decide))).trans (rU_fr U39 (by decide))) (by omega)
theorem k_ap {d : Nat} {hp : amH} {R : xQ} {x : Int32} (hH : bHk 84 bTT hp) (h0 : rN hp 1 0 ≤ 596) (hR : ∀ hp1, bHk 84 bTT hp1 → bFr wTx hp hp1 → rN hp1 1 0 = rN hp 1 0 + 4 → R (.inl none) hp1) : xK d 76 [.ref 1, .int x] hp R := by
  refine xin (M := am_m76) rfl rfl rfl ?_
  refine xbip 2 (24) ⟨u76, _, rfl⟩ rfl (by decide) (fun z0 h0 => ?_)
  refine xist 3 ⟨u76, _, rfl⟩ rfl rfl ?_
  exact l76 (by omega) hR 4 _ hp (Nat.le_refl _) (by omega) hH (bFr.refl _ _) (by omega)
/-- what comes of bytes added -/
theorem k_113 {d : Nat} {hp : amH} {R : xQ} {x1 x2 x3 x4 x5 : Int32} (hH : bHk 84 bTT hp) (hR : ∀ (z : Int32) hp1, bHk 84 bTT hp1 → bFr wTx hp hp1 → ((rN hp 1 0 ≤ 580 ∧ rN hp1 1 0 = rN hp 1 0 + 20 ∧ z.toInt = rN hp 1 0 + 20) ∨ (580 < rN hp 1 0 ∧ rN hp1 1 0 = rN hp 1 0 ∧ z.toInt = -1)) → R (.inl (some (.int z))) hp1) : xK (d + 1) 113 [.ref 0, .int x1, .int x2, .int x3, .int x4, .int x5] hp R := by
  have b1 := b10 hH
  refine xin (M := am_m113) rfl rfl rfl ?_
  refine xald 1 ⟨u113, _, rfl⟩ rfl rfl ?_
  refine xgetD 4 1 hH ⟨u113, _, rfl⟩ rfl (by decide) (by decide) rfl rfl (by decide) ?_
  refine xcallC 7 (o := 1) [] [] hH ⟨u113, _, rfl⟩ rfl rfl (by decide) rfl (by decide) rfl ⟨rfl, rfl, rfl, rfl⟩ rfl (k_hr hH (fun z4 h4 => ⟨_, rfl, ?_⟩))
  refine xif_ne 10 ⟨u113, _, rfl⟩ rfl (fun c7 => ?_) (fun c7 => ?_)
  · refine xald 13 ⟨u113, _, rfl⟩ rfl rfl ?_
    refine xgetD 16 1 hH ⟨u113, _, rfl⟩ rfl (by decide) (by decide) rfl rfl (by decide) ?_
    refine xild 17 ⟨u113, _, rfl⟩ rfl rfl ?_
    refine xcallC 20 (o := 1) [.int _] [] hH ⟨u113, _, rfl⟩ rfl rfl (by decide) rfl (by decide) rfl ⟨rfl, rfl, rfl, rfl⟩ rfl (k_ap hH (by omega) (fun hp17 hH17 F17 N17 => ⟨_, rfl, ?_⟩))
    refine xald 21 ⟨u113, _, rfl⟩ rfl rfl ?_
    refine xgetD 24 1 hH17 ⟨u113, _, rfl⟩ rfl (by decide) (by decide) rfl rfl (by decide) ?_
    refine xild 25 ⟨u113, _, rfl⟩ rfl rfl ?_
    refine xcallC 28 (o := 1) [.int _] [] hH17 ⟨u113, _, rfl⟩ rfl rfl (by decide) rfl (by decide) rfl ⟨rfl, rfl, rfl, rfl⟩ rfl (k_ap hH17 (by omega) (fun hp25 hH25 F25 N25 => ⟨_, rfl, ?_⟩))
    refine xald 29 ⟨u113, _, rfl⟩ rfl rfl ?_
    refine xgetD 32 1 hH25 ⟨u113, _, rfl⟩ rfl (by decide) (by decide) rfl rfl (by decide) ?_
    refine xild 33 ⟨u113, _, rfl⟩ rfl rfl ?_
    refine xcallC 36 (o := 1) [.int _] [] hH25 ⟨u113, _, rfl⟩ rfl rfl (by decide) rfl (by decide) rfl ⟨rfl, rfl, rfl, rfl⟩ rfl (k_ap hH25 (by omega) (fun hp33 hH33 F33 N33 => ⟨_, rfl, ?_⟩))
    refine xald 37 ⟨u113, _, rfl⟩ rfl rfl ?_
    refine xgetD 40 1 hH33 ⟨u113, _, rfl⟩ rfl (by decide) (by decide) rfl rfl (by decide) ?_
    refine xild2 42 ⟨u113, _, rfl⟩ rfl rfl ?_
    refine xcallC 45 (o := 1) [.int _] [] hH33 ⟨u113, _, rfl⟩ rfl rfl (by decide) rfl (by decide) rfl ⟨rfl, rfl, rfl, rfl⟩ rfl (k_ap hH33 (by omega) (fun hp42 hH42 F42 N42 => ⟨_, rfl, ?_⟩))
    refine xald 46 ⟨u113, _, rfl⟩ rfl rfl ?_
    refine xgetD 49 1 hH42 ⟨u113, _, rfl⟩ rfl (by decide) (by decide) rfl rfl (by decide) ?_
    refine xild2 51 ⟨u113, _, rfl⟩ rfl rfl ?_
    refine xcallC 54 (o := 1) [.int _] [] hH42 ⟨u113, _, rfl⟩ rfl rfl (by decide) rfl (by decide) rfl ⟨rfl, rfl, rfl, rfl⟩ rfl (k_ap hH42 (by omega) (fun hp51 hH51 F51 N51 => ⟨_, rfl, ?_⟩))
    refine xald 55 ⟨u113, _, rfl⟩ rfl rfl ?_
    refine xgetD 58 1 hH51 ⟨u113, _, rfl⟩ rfl (by decide) (by decide) rfl rfl (by decide) ?_
    refine xgetC 61 hH51 ⟨u113, _, rfl⟩ rfl (by decide) (by decide) rfl rfl (by decide) (fun z58 h58 => ?_)
    exact xret ⟨u113, _, rfl⟩ rfl (hR _ hp51 hH51 (((((F17).trans F25).trans F33).trans F42).trans F51) (Or.inl ⟨by omega, by omega, by omega⟩))
  · refine xcst 11 (-1) ⟨u113, _, rfl⟩ rfl (by decide) (fun z10 h10 => ?_)
    exact xret ⟨u113, _, rfl⟩ rfl (hR _ hp hH (bFr.refl _ _) (Or.inr ⟨by omega, rfl, by omega⟩))
theorem k_114 {d : Nat} {hp : amH} {R : xQ} {x : Int32} (hH : bHk 84 bTT hp) (hR : ∀ (z : Int32) hp1, bHk 84 bTT hp1 → bFr [(1, 0)] hp hp1 → ((0 ≤ x.toInt ∧ x.toInt ≤ rN hp 1 0 ∧ rN hp1 1 0 = x.toInt) ∨ ((x.toInt < 0 ∨ rN hp 1 0 < x.toInt) ∧ rN hp1 1 0 = rN hp 1 0)) → R (.inl (some (.int z))) hp1) : xK d 114 [.ref 0, .int x] hp R := by
  have b1 := b10 hH
  have m1 := aMin x
  have m2 := aMax x
  refine xin (M := am_m114) rfl rfl rfl ?_
  refine xild 1 ⟨u114, _, rfl⟩ rfl rfl ?_
  refine xif_lt 4 ⟨u114, _, rfl⟩ rfl (fun c1 => ?_) (fun c1 => ?_)
  · refine xcst 16 (0) ⟨u114, _, rfl⟩ rfl (by decide) (fun z15 h15 => ?_)
    exact xretB ⟨u114, _, rfl⟩ rfl (by omega) (hR _ hp hH (bFr.refl _ _) (Or.inr ⟨by omega, rfl⟩))
  · refine xild 5 ⟨u114, _, rfl⟩ rfl rfl ?_
    refine xald 6 ⟨u114, _, rfl⟩ rfl rfl ?_
    refine xgetD 9 1 hH ⟨u114, _, rfl⟩ rfl (by decide) (by decide) rfl rfl (by decide) ?_
    refine xgetC 12 hH ⟨u114, _, rfl⟩ rfl (by decide) (by decide) rfl rfl (by decide) (fun z9 h9 => ?_)
    refine xcmp_le 15 ⟨u114, _, rfl⟩ rfl (fun c12 => ?_) (fun c12 => ?_)
    · refine xald 18 ⟨u114, _, rfl⟩ rfl rfl ?_
      refine xgetD 21 1 hH ⟨u114, _, rfl⟩ rfl (by decide) (by decide) rfl rfl (by decide) ?_
      refine xild 22 ⟨u114, _, rfl⟩ rfl rfl ?_
      refine xputC 25 hH ⟨u114, _, rfl⟩ rfl (by decide) (by decide) rfl rfl (by decide) ⟨rfl, rfl⟩ (by omega) (by omega) (fun hp22 hH22 U22 => ?_)
      have s22 := U22.1
      refine xcst 26 (1) ⟨u114, _, rfl⟩ rfl (by decide) (fun z25 h25 => ?_)
      exact xretB ⟨u114, _, rfl⟩ rfl (by omega) (hR _ hp22 hH22 (rU_fr U22 (by decide)) (Or.inl ⟨by omega, by omega, by omega⟩))
    · refine xcst 16 (0) ⟨u114, _, rfl⟩ rfl (by decide) (fun z15 h15 => ?_)
      exact xretB ⟨u114, _, rfl⟩ rfl (by omega) (hR _ hp hH (bFr.refl _ _) (Or.inr ⟨by omega, rfl⟩))
theorem and255 (x z : Int32) (h : z.toInt = 255) : 0 ≤ (x &&& z).toInt ∧ (x &&& z).toInt ≤ 255 := by
  have e : z = 255 := Int32.toInt_inj.mp h
  subst e
  have h1 : (x &&& 255).toBitVec.toNat ≤ 255 := by rw [Int32.toBitVec_and, BitVec.toNat_and]; exact Nat.and_le_right
  have h2 : (x &&& 255).toInt = (x &&& 255).toBitVec.toInt := rfl
  rw [h2, BitVec.toInt_eq_toNat_cond]
  split <;> omega
def wAp : List (Nat × Nat) := [(66, 21), (80, 999)]
theorem b21 {hp : amH} (hH : bHk 84 bTT hp) : 0 ≤ rN hp 66 21 ∧ rN hp 66 21 ≤ 600 := by
  have := rb_fld hH (f := 21) (lo := 2147483648) (hi := 2147484248) rfl
  omega
theorem l238 {d : Nat} {hp0 : amH} {R : xQ} {x : Int32} (h0 : rN hp0 66 21 ≤ 596) (hR : ∀ hp1, bHk 84 bTT hp1 → bFr wAp hp0 hp1 → rN hp1 66 21 = rN hp0 66 21 + 4 → R (.inl none) hp1) :
    ∀ (jj : Nat) (k : Int32) (hp : amH), jj ≤ 4 → k.toInt = 8 * (jj : Int) - 8 → bHk 84 bTT hp → bFr wAp hp0 hp → rN hp 66 21 = rN hp0 66 21 + 4 - (jj : Int) → xV d am_m238 3 [some (.ref 66), some (.int x), some (.int k)] [] hp R := by
  intro jj
  induction jj with
  | zero =>
    intro k hp _ hk hH hF hn
    refine xild 4 ⟨u238, _, rfl⟩ rfl rfl ?_
    refine xif_lt 7 ⟨u238, _, rfl⟩ rfl (fun c4 => ?_) (fun c4 => ?_)
    · exact xretV ⟨u238, _, rfl⟩ rfl (hR hp hH hF (by omega))
    · omega
  | succ jj ih =>
    intro k hp hj hk hH hF hn
    have b1 := b21 hH
    refine xild 4 ⟨u238, _, rfl⟩ rfl rfl ?_
    refine xif_lt 7 ⟨u238, _, rfl⟩ rfl (fun c4 => ?_) (fun c4 => ?_)
    · omega
    · refine xald 8 ⟨u238, _, rfl⟩ rfl rfl ?_
      refine xgetR 11 80 hH ⟨u238, _, rfl⟩ rfl rfl ?_
      refine xald 12 ⟨u238, _, rfl⟩ rfl rfl ?_
      refine xgetI 15 hH ⟨u238, _, rfl⟩ rfl rfl (fun z12 h12 => ?_)
      refine xild 16 ⟨u238, _, rfl⟩ rfl rfl ?_
      refine xild 17 ⟨u238, _, rfl⟩ rfl rfl ?_
      refine xshr 18 ⟨u238, _, rfl⟩ rfl ?_
      refine xsip 21 (255) ⟨u238, _, rfl⟩ rfl (by decide) (fun z18 h18 => ?_)
      refine xand 22 ⟨u238, _, rfl⟩ rfl ?_
      have a22 := and255 (x >>> (k &&& 31)) z18 h18
      refine xiast 23 (z12).toInt.toNat hH ⟨u238, _, rfl⟩ rfl (by decide) rfl (by omega) (by omega) (by omega) (by omega) (fun hp22 hH22 U22 => ?_)
      have n22 : rN hp22 66 21 = rN hp 66 21 := rU_ne U22 (by omega)
      refine xald 24 ⟨u238, _, rfl⟩ rfl rfl ?_
      refine xdup 25 ⟨u238, _, rfl⟩ rfl rfl ?_
      refine xgetI 28 hH22 ⟨u238, _, rfl⟩ rfl rfl (fun z25 h25 => ?_)
      refine xcst 29 (1) ⟨u238, _, rfl⟩ rfl (by decide) (fun z28 h28 => ?_)
      refine xadd 30 _ ⟨u238, _, rfl⟩ rfl rfl (by omega) (by omega) (fun z29 h29 => ?_)
      refine xputI 33 hH22 ⟨u238, _, rfl⟩ rfl rfl ⟨rfl, rfl⟩ (by omega) (by omega) (fun hp30 hH30 U30 => ?_)
      have s30 := U30.1
      refine xinc 36 (-8) ⟨u238, _, rfl⟩ rfl rfl rfl (by decide) (by omega) (by omega) (fun z33 h33 => ?_)
      refine xgoto ⟨u238, _, rfl⟩ ?_
      exact ih _ hp30 (by omega) (by omega) hH30 ((hF.trans (rU_fr U22 (bIn_all (by decide) _))).trans (rU_fr U30 (by decide))) (by omega)
theorem k_aw {d : Nat} {hp : amH} {R : xQ} {x : Int32} (hH : bHk 84 bTT hp) (h0 : rN hp 66 21 ≤ 596) (hR : ∀ hp1, bHk 84 bTT hp1 → bFr wAp hp hp1 → rN hp1 66 21 = rN hp 66 21 + 4 → R (.inl none) hp1) : xK d 238 [.ref 66, .int x] hp R := by
  refine xin (M := am_m238) rfl rfl rfl ?_
  refine xbip 2 (24) ⟨u238, _, rfl⟩ rfl (by decide) (fun z0 h0 => ?_)
  refine xist 3 ⟨u238, _, rfl⟩ rfl rfl ?_
  exact l238 (by omega) hR 4 _ hp (Nat.le_refl _) (by omega) hH (bFr.refl _ _) (by omega)
theorem k_239 {d : Nat} {hp : amH} {R : xQ} {x1 x2 x3 x4 x5 : Int32} (hH : bHk 84 bTT hp) (hR : ∀ (z : Int32) hp1, bHk 84 bTT hp1 → bFr ((66, 7) :: wAp) hp hp1 → ((rN hp 66 21 ≤ 580 ∧ rN hp1 66 21 = rN hp 66 21 + 20 ∧ z.toInt = rN hp 66 21 + 20) ∨ (580 < rN hp 66 21 ∧ rN hp1 66 21 = rN hp 66 21 ∧ z.toInt = -1)) → R (.inl (some (.int z))) hp1) : xK (d + 1) 239 [.ref 66, .int x1, .int x2, .int x3, .int x4, .int x5] hp R := by
  have b1 := b21 hH
  refine xin (M := am_m239) rfl rfl rfl ?_
  refine xald 1 ⟨u239, _, rfl⟩ rfl rfl ?_
  refine xcst 2 (0) ⟨u239, _, rfl⟩ rfl (by decide) (fun z1 h1 => ?_)
  refine xputI 5 hH ⟨u239, _, rfl⟩ rfl rfl ⟨rfl, rfl⟩ (by omega) (by omega) (fun hp2 hH2 U2 => ?_)
  have n2 : rN hp2 66 21 = rN hp 66 21 := rU_ne U2 (by omega)
  refine xald 6 ⟨u239, _, rfl⟩ rfl rfl ?_
  refine xgetI 9 hH2 ⟨u239, _, rfl⟩ rfl rfl (fun z6 h6 => ?_)
  refine xbip 11 (20) ⟨u239, _, rfl⟩ rfl (by decide) (fun z9 h9 => ?_)
  refine xadd 12 _ ⟨u239, _, rfl⟩ rfl rfl (by omega) (by omega) (fun z11 h11 => ?_)
  refine xsip 15 (600) ⟨u239, _, rfl⟩ rfl (by decide) (fun z12 h12 => ?_)
  refine xcmp_le 18 ⟨u239, _, rfl⟩ rfl (fun c15 => ?_) (fun c15 => ?_)
  · refine xald 21 ⟨u239, _, rfl⟩ rfl rfl ?_
    refine xild 22 ⟨u239, _, rfl⟩ rfl rfl ?_
    refine xcall 25 [.ref 66, .int _] [] hH2 ⟨u239, _, rfl⟩ rfl rfl rfl rfl rfl (k_aw hH2 (by omega) (fun hp22 hH22 F22 N22 => ⟨_, rfl, ?_⟩))
    refine xald 26 ⟨u239, _, rfl⟩ rfl rfl ?_
    refine xild 27 ⟨u239, _, rfl⟩ rfl rfl ?_
    refine xcall 30 [.ref 66, .int _] [] hH22 ⟨u239, _, rfl⟩ rfl rfl rfl rfl rfl (k_aw hH22 (by omega) (fun hp27 hH27 F27 N27 => ⟨_, rfl, ?_⟩))
    refine xald 31 ⟨u239, _, rfl⟩ rfl rfl ?_
    refine xild 32 ⟨u239, _, rfl⟩ rfl rfl ?_
    refine xcall 35 [.ref 66, .int _] [] hH27 ⟨u239, _, rfl⟩ rfl rfl rfl rfl rfl (k_aw hH27 (by omega) (fun hp32 hH32 F32 N32 => ⟨_, rfl, ?_⟩))
    refine xald 36 ⟨u239, _, rfl⟩ rfl rfl ?_
    refine xild2 38 ⟨u239, _, rfl⟩ rfl rfl ?_
    refine xcall 41 [.ref 66, .int _] [] hH32 ⟨u239, _, rfl⟩ rfl rfl rfl rfl rfl (k_aw hH32 (by omega) (fun hp38 hH38 F38 N38 => ⟨_, rfl, ?_⟩))
    refine xald 42 ⟨u239, _, rfl⟩ rfl rfl ?_
    refine xild2 44 ⟨u239, _, rfl⟩ rfl rfl ?_
    refine xcall 47 [.ref 66, .int _] [] hH38 ⟨u239, _, rfl⟩ rfl rfl rfl rfl rfl (k_aw hH38 (by omega) (fun hp44 hH44 F44 N44 => ⟨_, rfl, ?_⟩))
    refine xald 48 ⟨u239, _, rfl⟩ rfl rfl ?_
    refine xgetI 51 hH44 ⟨u239, _, rfl⟩ rfl rfl (fun z48 h48 => ?_)
    exact xret ⟨u239, _, rfl⟩ rfl (hR _ hp44 hH44 ((rU_fr U2 (by decide)).trans (bFr_sub (((((F22).trans F27).trans F32).trans F38).trans F44) (by decide))) (Or.inl ⟨by omega, by omega, by omega⟩))
  · refine xcst 19 (-1) ⟨u239, _, rfl⟩ rfl (by decide) (fun z18 h18 => ?_)
    exact xret ⟨u239, _, rfl⟩ rfl (hR _ hp2 hH2 (rU_fr U2 (by decide)) (Or.inr ⟨by omega, by omega, by omega⟩))
theorem k_240 {d : Nat} {hp : amH} {R : xQ} {x : Int32} (hH : bHk 84 bTT hp) (hR : ∀ (z : Int32) hp1, bHk 84 bTT hp1 → bFr [(66, 7), (66, 21)] hp hp1 → ((0 ≤ x.toInt ∧ x.toInt ≤ rN hp 66 21 ∧ rN hp1 66 21 = x.toInt) ∨ ((x.toInt < 0 ∨ rN hp 66 21 < x.toInt) ∧ rN hp1 66 21 = rN hp 66 21)) → R (.inl (some (.int z))) hp1) : xK (d + 1) 240 [.ref 66, .int x] hp R := by
  have b1 := b21 hH
  have m1 := aMin x
  have m2 := aMax x
  refine xin (M := am_m240) rfl rfl rfl ?_
  refine xald 1 ⟨u240, _, rfl⟩ rfl rfl ?_
  refine xcst 2 (0) ⟨u240, _, rfl⟩ rfl (by decide) (fun z1 h1 => ?_)
  refine xputI 5 hH ⟨u240, _, rfl⟩ rfl rfl ⟨rfl, rfl⟩ (by omega) (by omega) (fun hp2 hH2 U2 => ?_)
  have n2 : rN hp2 66 21 = rN hp 66 21 := rU_ne U2 (by omega)
  refine xild 6 ⟨u240, _, rfl⟩ rfl rfl ?_
  refine xcst 7 (0) ⟨u240, _, rfl⟩ rfl (by decide) (fun z6 h6 => ?_)
  refine xald 8 ⟨u240, _, rfl⟩ rfl rfl ?_
  refine xgetI 11 hH2 ⟨u240, _, rfl⟩ rfl rfl (fun z8 h8 => ?_)
  refine xcallS 14 [.int _, .int _, .int _] [] hH2 ⟨u240, _, rfl⟩ rfl rfl rfl rfl rfl (k_inr (fun z11 h11 => ⟨_, rfl, ?_⟩))
  refine xif_ne 17 ⟨u240, _, rfl⟩ rfl (fun c14 => ?_) (fun c14 => ?_)
  · refine xald 20 ⟨u240, _, rfl⟩ rfl rfl ?_
    refine xild 21 ⟨u240, _, rfl⟩ rfl rfl ?_
    refine xputI 24 hH2 ⟨u240, _, rfl⟩ rfl rfl ⟨rfl, rfl⟩ (by omega) (by omega) (fun hp21 hH21 U21 => ?_)
    have s21 := U21.1
    refine xcst 25 (1) ⟨u240, _, rfl⟩ rfl (by decide) (fun z24 h24 => ?_)
    exact xretB ⟨u240, _, rfl⟩ rfl (by omega) (hR _ hp21 hH21 ((rU_fr U2 (by decide)).trans (rU_fr U21 (by decide))) (Or.inl ⟨by omega, by omega, by omega⟩))
  · refine xcst 18 (0) ⟨u240, _, rfl⟩ rfl (by decide) (fun z17 h17 => ?_)
    exact xretB ⟨u240, _, rfl⟩ rfl (by omega) (hR _ hp2 hH2 (rU_fr U2 (by decide)) (Or.inr ⟨by omega, by omega⟩))
