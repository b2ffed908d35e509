/-! ===== ways by hand: the text's bytes, on both sides ===== -/
theorem x_fI {hp : amH} (hH : bHk 84 bTT hp) {c t n f lo hi : Nat} {ys : List bY} (hc : c < 84) (hT : bTT c = some (t, n, ys)) (hy : bDy (t, n, ys) f = some (.inl (lo, hi))) (hm : f < n) : ∃ vs, hp[c]? = some (t, vs) ∧ f < vs.length ∧ ∃ x, vs[f]? = some (.int x) ∧ x.toInt = rN hp c f ∧ lo ≤ aOff x ∧ aOff x ≤ hi := by
  obtain ⟨⟨t1, vs⟩, g1, g2, g3, g4⟩ := bHk_at hH hc hT
  have g2 : t1 = t := g2
  subst g2
  have g3 : vs.length = n := g3
  have hl : f < vs.length := by omega
  obtain ⟨y, k1, k2⟩ := g4 f vs[f] (List.getElem?_eq_getElem hl)
  rw [hy] at k1
  cases k1
  obtain ⟨x, e1, x1, x2⟩ := k2
  refine ⟨vs, g1, hl, x, by rw [List.getElem?_eq_getElem hl, e1], ?_, x1, x2⟩
  unfold rN bFld
  rw [g1]
  dsimp only
  rw [List.getElem?_eq_getElem hl, e1]
theorem x_fR {hp : amH} (hH : bHk 84 bTT hp) {c t n f j : Nat} {ys : List bY} (hc : c < 84) (hT : bTT c = some (t, n, ys)) (hy : bDy (t, n, ys) f = some (.inr (.inr [j]))) (hm : f < n) : ∃ vs, hp[c]? = some (t, vs) ∧ vs[f]? = some (.ref j) := by
  obtain ⟨⟨t1, vs⟩, g1, g2, g3, g4⟩ := bHk_at hH hc hT
  have g2 : t1 = t := g2
  subst g2
  have g3 : vs.length = n := g3
  have hl : f < vs.length := by omega
  obtain ⟨y, k1, k2⟩ := g4 f vs[f] (List.getElem?_eq_getElem hl)
  rw [hy] at k1
  cases k1
  obtain ⟨u, e1, -, e3⟩ := k2
  have hu : u = j := by simpa using e3
  exact ⟨vs, g1, by rw [List.getElem?_eq_getElem hl, e1, hu]⟩
theorem rb_c {hp : amH} (hH : bHk 84 bTT hp) {c t n f lo hi : Nat} {ys : List bY} (hc : c < 84) (hT : bTT c = some (t, n, ys)) (hy : bDy (t, n, ys) f = some (.inl (lo, hi))) (hm : f < n) : (lo : Int) - 2147483648 ≤ rN hp c f ∧ rN hp c f ≤ (hi : Int) - 2147483648 := by
  obtain ⟨vs, -, -, x, -, h2, h3, h4⟩ := x_fI hH hc hT hy hm
  have := aOff_eq x
  omega
/-- a number of a cell written -/
theorem x_set {hp : amH} (hH : bHk 84 bTT hp) {c t n f lo hi : Nat} {ys : List bY} {vs : List Value} {x : Int32} (hT : bTT c = some (t, n, ys)) (g1 : hp[c]? = some (t, vs)) (g2 : f < vs.length) (hy : bDy (t, n, ys) f = some (.inl (lo, hi))) (h1 : lo ≤ aOff x) (h2 : aOff x ≤ hi) (hc : c < 84) : bHk 84 bTT (hp.set c (t, vs.set f (.int x))) ∧ rU hp (hp.set c (t, vs.set f (.int x))) c f x.toInt := by
  obtain ⟨c0, q1, q2⟩ := bHk_at hH hc hT
  cases q1.symm.trans g1
  refine ⟨bHk_set hH hT (bHc_set q2 hy ⟨x, rfl, h1, h2⟩), ?_, fun c1 i1 hne => ?_⟩
  · unfold rN
    rw [bFld_set g1, if_pos rfl]
    dsimp only
    rw [List.getElem?_set_self g2]
  · rw [bFld_set g1]
    split
    · next z =>
      subst z
      dsimp only
      rw [List.getElem?_set_ne (fun z => hne ⟨rfl, z.symm⟩)]
      unfold bFld
      rw [g1]
    · rfl
section XD
variable {M : amM} {pc a b d : Nat} {L : List (Option Value)} {st : List Value} {hp : amH} {Q : xQ}
theorem xgetC (q : Nat) {c t n f lo hi : Nat} {ys : List bY} {i : _} (hH : bHk 84 bTT hp) (h : xI M pc (.getfield i) t f) (e : q = pc + 3) (hc : c < 84) (h32 : t < 32) (hT : bTT c = some (t, n, ys)) (hy : bDy (t, n, ys) f = some (.inl (lo, hi))) (hm : f < n) (hw : ∀ z : Int32, z.toInt = rN hp c f → xV d M q L (.int z :: st) hp Q) : xV d M pc L (.ref c :: st) hp Q := by
  obtain ⟨vs, h1, -, x, h2, h3, -⟩ := x_fI hH hc hT hy hm
  refine xstep h (fun cl hl => ⟨cl, ?_, hl⟩) (hw x h3)
  subst e
  simp [amDo, amStep, amFGet, h1, h2, h32]
theorem xgetD (q j : Nat) {c t n f : Nat} {ys : List bY} {i : _} (hH : bHk 84 bTT hp) (h : xI M pc (.getfield i) t f) (e : q = pc + 3) (hc : c < 84) (h32 : t < 32) (hT : bTT c = some (t, n, ys)) (hy : bDy (t, n, ys) f = some (.inr (.inr [j]))) (hm : f < n) (hw : xV d M q L (.ref j :: st) hp Q) : xV d M pc L (.ref c :: st) hp Q := by
  obtain ⟨vs, h1, h2⟩ := x_fR hH hc hT hy hm
  refine xstep h (fun cl hl => ⟨cl, ?_, hl⟩) hw
  subst e
  simp [amDo, amStep, amFGet, h1, h2, h32]
theorem xputC (q : Nat) {c t n f lo hi : Nat} {ys : List bY} {i : _} {x : Int32} (hH : bHk 84 bTT hp) (h : xI M pc (.putfield i) t f) (e : q = pc + 3) (hc : c < 84) (h32 : t < 32) (hT : bTT c = some (t, n, ys)) (hy : bDy (t, n, ys) f = some (.inl (lo, hi))) (hm : f < n) (hn : narrow (amFty t f) (.int x) = .int x ∧ fits (amFty t f) (.int x) = true) (h1 : (lo : Int) - 2147483648 ≤ x.toInt) (h2 : x.toInt ≤ (hi : Int) - 2147483648)
    (hw : ∀ hp1, bHk 84 bTT hp1 → rU hp hp1 c f x.toInt → xV d M q L st hp1 Q) : xV d M pc L (.int x :: .ref c :: st) hp Q := by
  obtain ⟨vs, g1, g2, -⟩ := x_fI hH hc hT hy hm
  have ho := aOff_eq x
  obtain ⟨k1, k2⟩ := x_set hH (x := x) hT g1 g2 hy (by omega) (by omega) hc
  refine xstep h (fun cl hl => ⟨cl, ?_, hl⟩) (hw _ k1 k2)
  subst e
  simp [amDo, amStep, amFSet, g1, g2, hn.1, hn.2, h32]
theorem xlenB (q : Nat) (hH : bHk 84 bTT hp) (h : xI M pc .arraylength a b) (e : q = pc + 1) (hw : ∀ z : Int32, z.toInt = 600 → xV d M q L (.int z :: st) hp Q) : xV d M pc L (.ref 2 :: st) hp Q := by
  obtain ⟨⟨t1, vs⟩, g1, g2, g3, -⟩ := bHk_at hH (i := 2) (by decide) (D := (34, 600, [.inl (2147483520, 2147483775)])) rfl
  have g2 : t1 = 34 := g2
  subst g2
  have g3 : vs.length = 600 := g3
  refine xstep h (fun cl hl => ⟨cl, ?_, hl⟩) (hw (Int32.ofNat 600) rfl)
  subst e
  simp [amDo, amStep, amScLen, amLen, g1, g3]
/-- a call of a method by an object of its class -/
theorem xcallC (q : Nat) {k o t n : Nat} {ys : List bY} {j : _} {N : amM} (av rest : List Value) {st : List Value} (hH : bHk 84 bTT hp) (h : xI M pc (.invokevirtual j) k 0) (e : q = pc + 3) (hst : st = (Value.ref o :: av).reverse ++ rest) (ho : o < 84) (hT : bTT o = some (t, n, ys)) (h32 : t < 32) (hN : amGG k = some N)
    (hc : N.2.2.1 = av.length + 1 ∧ N.2.2.2.2.2.2 = t ∧ Nat.ble (((Value.ref o :: av).reverse.map fun v => v.category).sum) N.2.1 = true ∧ Nat.ble ((rest.map fun v => v.category).sum) 8 = true) (hr : amOkS 84 rest = true)
    (hk : xK d k (.ref o :: av) hp (fun y hp1 => ∃ v, y = .inl v ∧ xV (d + 1) M q L (v.toList ++ rest) hp1 Q)) : xV (d + 1) M pc L st hp Q := by
  intro cl hl
  obtain ⟨hu, r, hr2⟩ := h
  obtain ⟨N', hN', hw⟩ := hk
  rw [hN] at hN'
  cases hN'
  rw [hr2]
  obtain ⟨c1, c2, c3, c4⟩ := hc
  have c3 := Nat.le_of_ble_eq_true c3
  have c4 := Nat.le_of_ble_eq_true c4
  have hlen : (Value.ref o :: av).reverse.length = N.2.2.1 := by rw [List.length_reverse, c1]; rfl
  have t1 : st.take N.2.2.1 = (Value.ref o :: av).reverse := by rw [hst, ← hlen, List.take_left]
  have t2 : st.drop N.2.2.1 = rest := by rw [hst, ← hlen, List.drop_left]
  have hrec : amRecv 0 N.2.2.2.2.2.2 hp (.ref o :: av) = true := by
    obtain ⟨⟨t3, vs⟩, g1, g2, -, -⟩ := bHk_at hH ho hT
    have g2 : t3 = t := g2
    subst g2
    unfold amRecv
    dsimp only
    rw [if_pos rfl, g1, c2]
    exact decide_eq_true ⟨rfl, h32⟩
  have hcall : amCall amGG 0 k cl st hp = some (.inr (.inr (.inr (k, .ref o :: av, rest)))) := by
    unfold amCall
    rw [hN]
    dsimp only
    rw [t1, t2, List.reverse_reverse, if_pos]
    refine ⟨by rw [hst, List.length_append]; omega, c3, ?_, c4⟩
    rw [hH.1, hl.1, hr, hrec]
    rfl
  have hdo : amDo amGG M none (.invokevirtual j) k 0 pc cl st hp = some (.inr (.inr (.inr (k, .ref o :: av, rest)))) := by
    simp only [amDo]
    rw [if_neg (by decide), if_neg (by decide)]
    exact hcall
  refine bWp_call (q := (pc, .invokevirtual j, k, 0)) hdo hN (bWp_mono hw (fun y hp1 hy => ?_))
  obtain ⟨v, rfl, hy⟩ := hy
  dsimp only
  rw [bUp_next hu (xI_suf hr2), ← e]
  exact hy cl hl
end XD
theorem u75 : bUp 0 am_m75.1 = true := by decide +kernel
theorem u76 : bUp 0 am_m76.1 = true := by decide +kernel
theorem u113 : bUp 0 am_m113.1 = true := by decide +kernel
theorem u114 : bUp 0 am_m114.1 = true := by decide +kernel
theorem u238 : bUp 0 am_m238.1 = true := by decide +kernel
theorem u239 : bUp 0 am_m239.1 = true := by decide +kernel
theorem u240 : bUp 0 am_m240.1 = true := by decide +kernel
theorem b10 {hp : amH} (hH : bHk 84 bTT hp) : 0 ≤ rN hp 1 0 ∧ rN hp 1 0 ≤ 600 := by
  have := rb_c hH (c := 1) (f := 0) (by decide) rfl rfl (by decide)
  omega
def wTx : List (Nat × Nat) := [(1, 0), (2, 999)]
theorem k_hr {d : Nat} {hp : amH} {R : xQ} (hH : bHk 84 bTT hp) (hR : ∀ z : Int32, ((z.toInt = 1 ∧ rN hp 1 0 ≤ 580) ∨ (z.toInt = 0 ∧ 580 < rN hp 1 0)) → R (.inl (some (.int z))) hp) : xK d 75 [.ref 1] hp R := by
  have b1 := b10 hH
  refine xin (M := am_m75) rfl rfl rfl ?_
  refine xald 1 ⟨u75, _, rfl⟩ rfl rfl ?_
  refine xgetC 4 hH ⟨u75, _, rfl⟩ rfl (by decide) (by decide) rfl rfl (by decide) (fun z1 h1 => ?_)
  refine xbip 6 (20) ⟨u75, _, rfl⟩ rfl (by decide) (fun z4 h4 => ?_)
  refine xadd 7 _ ⟨u75, _, rfl⟩ rfl rfl (by omega) (by omega) (fun z6 h6 => ?_)
  refine xsip 10 (600) ⟨u75, _, rfl⟩ rfl (by decide) (fun z7 h7 => ?_)
  refine xcmp_gt 13 ⟨u75, _, rfl⟩ rfl (fun c10 => ?_) (fun c10 => ?_)
  · refine xcst 18 (0) ⟨u75, _, rfl⟩ rfl (by decide) (fun z17 h17 => ?_)
    exact xretB ⟨u75, _, rfl⟩ rfl (by omega) (hR _ (by omega))
  · refine xcst 14 (1) ⟨u75, _, rfl⟩ rfl (by decide) (fun z13 h13 => ?_)
    refine xgoto ⟨u75, _, rfl⟩ ?_
    exact xretB ⟨u75, _, rfl⟩ rfl (by omega) (hR _ (by omega))
theorem and255 (x z : Int32) (h : z.toInt = 255) : 0 ≤ (x &&& z).toInt ∧ (x &&& z).toInt ≤ 255 := by
  have e : z = 255 := Int32.toInt_inj.mp h
  subst e
  have h1 : (x &&& 255).toBitVec.toNat ≤ 255 := by rw [Int32.toBitVec_and, BitVec.toNat_and]; exact Nat.and_le_right
  have h2 : (x &&& 255).toInt = (x &&& 255).toBitVec.toInt := rfl
  rw [h2, BitVec.toInt_eq_toNat_cond]
  split <;> omega
def wAp : List (Nat × Nat) := [(66, 21), (80, 999)]
theorem b21 {hp : amH} (hH : bHk 84 bTT hp) : 0 ≤ rN hp 66 21 ∧ rN hp 66 21 ≤ 600 := by
  have := rb_fld hH (f := 21) (lo := 2147483648) (hi := 2147484248) rfl
  omega
