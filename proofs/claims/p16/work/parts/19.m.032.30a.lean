/-! ##### 19.m.032.30a ##### -/
section
/-! ===== ways by hand: rules for references and longs ===== -/
def rJ (hp : amH) (c i : Nat) : Int := match bFld hp c i with
  | some (.long x) => x.toInt
  | _ => 0
/-- the field i of the cell c holds v, all else is as it was -/
def rV (hp hp1 : amH) (c i : Nat) (v : Value) : Prop := bFld hp1 c i = some v ∧ ∀ c1 i1, ¬ (c1 = c ∧ i1 = i) → bFld hp1 c1 i1 = bFld hp c1 i1
theorem rJ_eq {hp hp1 : amH} {c i c1 i1 : Nat} (h : bFld hp1 c1 i1 = bFld hp c i) : rJ hp1 c1 i1 = rJ hp c i := by unfold rJ; rw [h]
theorem rV_ne {hp hp1 : amH} {c i : Nat} {v : Value} (h : rV hp hp1 c i v) {c1 i1 : Nat} (hn : ¬ (c1 = c ∧ i1 = i)) : rN hp1 c1 i1 = rN hp c1 i1 := rN_eq (h.2 c1 i1 hn)
theorem rV_J {hp hp1 : amH} {c i : Nat} {x : Int64} (h : rV hp hp1 c i (.long x)) : rJ hp1 c i = x.toInt := by unfold rJ; rw [h.1]
theorem rJ_ne {hp hp1 : amH} {c i : Nat} {m : Int} (h : rU hp hp1 c i m) {c1 i1 : Nat} (hn : ¬ (c1 = c ∧ i1 = i)) : rJ hp1 c1 i1 = rJ hp c1 i1 := rJ_eq (h.2 c1 i1 hn)
theorem bFld_at {hp : amH} {c f : Nat} {v : Value} (h : bFld hp c f = some v) : ∃ d, hp[c]? = some d ∧ d.2[f]? = some v := by
  unfold bFld at h
  split at h
  · next d e => exact ⟨d, e, h⟩
  · cases h
/-- a field of a cell written with what its type allows -/
theorem v_set {hp : amH} (hH : bHk 84 bTT hp) {c t n f : Nat} {ys : List bY} {y : bY} {v : Value} (hc : c < 84) (hT : bTT c = some (t, n, ys)) (hy : bDy (t, n, ys) f = some y) (hm : f < n) (hv : bYr 84 y v) : ∃ vs, hp[c]? = some (t, vs) ∧ f < vs.length ∧ vs.length = n ∧ bHk 84 bTT (hp.set c (t, vs.set f v)) ∧ rV hp (hp.set c (t, vs.set f v)) c f v := by
  obtain ⟨⟨t1, vs⟩, g1, g2, g3, g4⟩ := bHk_at hH hc hT
  have g2 : t1 = t := g2
  subst g2
  have g3 : vs.length = n := g3
  refine ⟨vs, g1, by omega, g3, bHk_set hH hT (bHc_set ⟨rfl, g3, g4⟩ hy hv), ?_, fun c1 i1 hne => ?_⟩
  · rw [bFld_set g1, if_pos rfl]
    dsimp only
    rw [List.getElem?_set_self (by omega)]
  · rw [bFld_set g1]
    split
    · next z =>
      subst z
      dsimp only
      rw [List.getElem?_set_ne (fun z => hne ⟨rfl, z.symm⟩)]
      unfold bFld
      rw [g1]
    · rfl
theorem x_row2 {hp : amH} (hH : bHk 84 bTT hp) {c n t : Nat} {ys : List bY} (hc : c < 84) (hT : bTT c = some (t, n, ys)) : ∃ vs, hp[c]? = some (t, vs) ∧ vs.length = n := by
  obtain ⟨⟨t1, vs⟩, g1, g2, g3, g4⟩ := bHk_at hH hc hT
  have g2 : t1 = t := g2
  subst g2
  exact ⟨vs, g1, g3⟩
theorem bT_J {v : Value} (h : bT 1 v) : ∃ x, v = .long x := by
  rcases h with ⟨-, x, rfl⟩ | ⟨h, -⟩ | ⟨h, -⟩ | ⟨h, -⟩ | ⟨h, -⟩
  · exact ⟨x, rfl⟩
  all_goals exact absurd h (by decide)
theorem bT_J1 {n : Nat} {x : Int64} : bYr n (.inr (.inl 1)) (.long x) := Or.inl ⟨rfl, x, rfl⟩
theorem lg_cmp_t (x y : Int64) : ((lg_cmp x y).toInt = -1 ∧ x.toInt < y.toInt) ∨ ((lg_cmp x y).toInt = 0 ∧ x.toInt = y.toInt) ∨ ((lg_cmp x y).toInt = 1 ∧ y.toInt < x.toInt) := by
  unfold lg_cmp
  have h1 : (1 : Int32).toInt = 1 := by decide
  have h0 : (0 : Int32).toInt = 0 := by decide
  have hm : (-1 : Int32).toInt = -1 := by decide
  by_cases g : x > y
  · rw [if_pos g]
    exact Or.inr (Or.inr ⟨h1, Int64.lt_iff_toInt_lt.mp g⟩)
  · rw [if_neg g]
    by_cases e : x = y
    · rw [if_pos e]
      exact Or.inr (Or.inl ⟨h0, by rw [e]⟩)
    · rw [if_neg e]
      have k1 : ¬ y.toInt < x.toInt := fun z => g (Int64.lt_iff_toInt_lt.mpr z)
      have k2 : ¬ x.toInt = y.toInt := fun z => e (Int64.toInt_inj.mp z)
      exact Or.inl ⟨hm, by omega⟩
section XJ
variable {M : amM} {pc a b d : Nat} {L : List (Option Value)} {st : List Value} {hp : amH} {Q : xQ}
theorem xgetF (q j : Nat) {c t n f : Nat} {ys : List bY} {i : _} (hH : bHk 84 bTT hp) (h : xI M pc (.getfield i) t f) (e : q = pc + 3) (hc : c < 84) (h32 : t < 32) (hT : bTT c = some (t, n, ys)) (hF : bFld hp c f = some (.ref j)) (hw : xV d M q L (.ref j :: st) hp Q) : xV d M pc L (.ref c :: st) hp Q := by
  obtain ⟨vs, g1, -⟩ := x_row2 hH hc hT
  obtain ⟨d1, k1, k2⟩ := bFld_at hF
  cases g1.symm.trans k1
  refine xstep h (fun cl hl => ⟨cl, ?_, hl⟩) hw
  subst e
  simp [amDo, amStep, amFGet, g1, k2, h32]
theorem xgetJ (q : Nat) {c t n f : Nat} {ys : List bY} {i : _} (hH : bHk 84 bTT hp) (h : xI M pc (.getfield i) t f) (e : q = pc + 3) (hc : c < 84) (h32 : t < 32) (hT : bTT c = some (t, n, ys)) (hy : bDy (t, n, ys) f = some (.inr (.inl 1))) (hm : f < n) (hw : ∀ z : Int64, z.toInt = rJ hp c f → xV d M q L (.long z :: st) hp Q) : xV d M pc L (.ref c :: st) hp Q := by
  obtain ⟨⟨t1, vs⟩, g1, g2, g3, g4⟩ := bHk_at hH hc hT
  have g2 : t1 = t := g2
  subst g2
  have g3 : vs.length = n := g3
  have hv : f < vs.length := by omega
  obtain ⟨y, k1, k2⟩ := g4 f vs[f] (List.getElem?_eq_getElem hv)
  rw [hy] at k1
  cases k1
  obtain ⟨x, ex⟩ := bT_J k2
  refine xstep h (fun cl hl => ⟨cl, ?_, hl⟩) (hw x ?_)
  · subst e
    simp [amDo, amStep, amFGet, g1, h32, List.getElem?_eq_getElem hv, ex]
  · unfold rJ bFld
    rw [g1]
    dsimp only
    rw [List.getElem?_eq_getElem hv, ex]
theorem xputJ (q : Nat) {c t n f : Nat} {ys : List bY} {i : _} {x : Int64} (hH : bHk 84 bTT hp) (h : xI M pc (.putfield i) t f) (e : q = pc + 3) (hc : c < 84) (h32 : t < 32) (hT : bTT c = some (t, n, ys)) (hy : bDy (t, n, ys) f = some (.inr (.inl 1))) (hm : f < n) (hn : narrow (amFty t f) (.long x) = .long x ∧ fits (amFty t f) (.long x) = true)
    (hw : ∀ hp1, bHk 84 bTT hp1 → rV hp hp1 c f (.long x) → xV d M q L st hp1 Q) : xV d M pc L (.long x :: .ref c :: st) hp Q := by
  obtain ⟨vs, g1, g2, g3, k1, k2⟩ := v_set hH (v := .long x) hc hT hy hm bT_J1
  refine xstep h (fun cl hl => ⟨cl, ?_, hl⟩) (hw _ k1 k2)
  subst e
  simp [amDo, amStep, amFSet, g1, g2, hn.1, hn.2, h32]
theorem xaald (q n j : Nat) {c len : Nat} {ys : List bY} {x : Int32} (hH : bHk 84 bTT hp) (h : xI M pc .aaload a b) (e : q = pc + 1) (hc : c < 84) (hT : bTT c = some (35, len, ys)) (hn : x.toInt = (n : Int)) (hl : n < len) (hF : bFld hp c n = some (.ref j)) (hw : xV d M q L (.ref j :: st) hp Q) : xV d M pc L (.int x :: .ref c :: st) hp Q := by
  obtain ⟨vs, g1, g3⟩ := x_row2 hH hc hT
  obtain ⟨d1, k1, k2⟩ := bFld_at hF
  cases g1.symm.trans k1
  have k2 : vs[n]? = some (.ref j) := k2
  refine xstep h (fun cl hl => ⟨cl, ?_, hl⟩) hw
  obtain ⟨e1, e2⟩ := rw_in (m := vs.length) hn (by omega)
  subst e
  simp [amDo, amStep, amALd, g1, e1, e2, amIsA, k2]
theorem xaast (q n j : Nat) {c len : Nat} {ys : List bY} {y : bY} {x : Int32} (hH : bHk 84 bTT hp) (h : xI M pc .aastore a b) (e : q = pc + 1) (hc : c < 84) (hT : bTT c = some (35, len, ys)) (hn : x.toInt = (n : Int)) (hl : n < len) (hy : bDy (35, len, ys) n = some y) (hv : bYr 84 y (.ref j)) (hj : amIsSn hp (.ref j) = true)
    (hw : ∀ hp1, bHk 84 bTT hp1 → rV hp hp1 c n (.ref j) → xV d M q L st hp1 Q) : xV d M pc L (.ref j :: .int x :: .ref c :: st) hp Q := by
  obtain ⟨vs, g1, g2, g3, k1, k2⟩ := v_set hH (v := .ref j) hc hT hy hl hv
  refine xstep h (fun cl hl => ⟨cl, ?_, hl⟩) (hw _ k1 k2)
  obtain ⟨e1, e2⟩ := rw_in (m := vs.length) hn (by omega)
  subst e
  simp only [amDo, amStep, amASt, g1, e1, e2, hj, and_self, if_true, Option.map_some, id]
theorem xlald (q n : Nat) {c len : Nat} {x : Int32} (hH : bHk 84 bTT hp) (h : xI M pc .laload a b) (e : q = pc + 1) (hc : c < 84) (hT : bTT c = some (33, len, [.inr (.inl 1)])) (hn : x.toInt = (n : Int)) (hl : n < len) (hw : ∀ z : Int64, z.toInt = rJ hp c n → xV d M q L (.long z :: st) hp Q) : xV d M pc L (.int x :: .ref c :: st) hp Q := by
  obtain ⟨⟨t1, vs⟩, g1, g2, g3, g4⟩ := bHk_at hH hc hT
  have g2 : t1 = 33 := g2
  subst g2
  have g3 : vs.length = len := g3
  have hl2 : n < vs.length := by omega
  obtain ⟨y, k1, k2⟩ := g4 n vs[n] (List.getElem?_eq_getElem hl2)
  rw [show bDy (33, len, [.inr (.inl 1)]) n = some (.inr (.inl 1)) from rfl] at k1
  cases k1
  obtain ⟨w, ex⟩ := bT_J k2
  obtain ⟨e1, e2⟩ := rw_in (m := vs.length) hn hl2
  refine xstep h (fun cl hl => ⟨cl, ?_, hl⟩) (hw w ?_)
  · subst e
    simp [amDo, amStep, amALd, g1, e1, e2, amIsJ, List.getElem?_eq_getElem hl2, ex]
  · unfold rJ bFld
    rw [g1]
    dsimp only
    rw [List.getElem?_eq_getElem hl2, ex]
theorem xlast (q n : Nat) {c len : Nat} {x : Int32} {v : Int64} (hH : bHk 84 bTT hp) (h : xI M pc .lastore a b) (e : q = pc + 1) (hc : c < 84) (hT : bTT c = some (33, len, [.inr (.inl 1)])) (hn : x.toInt = (n : Int)) (hl : n < len)
    (hw : ∀ hp1, bHk 84 bTT hp1 → rV hp hp1 c n (.long v) → xV d M q L st hp1 Q) : xV d M pc L (.long v :: .int x :: .ref c :: st) hp Q := by
  obtain ⟨vs, g1, g2, g3, k1, k2⟩ := v_set hH (v := .long v) (y := .inr (.inl 1)) hc hT rfl hl bT_J1
  refine xstep h (fun cl hl => ⟨cl, ?_, hl⟩) (hw _ k1 k2)
  obtain ⟨e1, e2⟩ := rw_in (m := vs.length) hn (by omega)
  subst e
  simp only [amDo, amStep, amASt, g1, e1, e2, amIsJ, and_self, if_true, Option.map_some, id]
theorem xlldG (q : Nat) {i : Instr} {k : Nat} {x : Int64} (h : xI M pc i a b) (hi : (i = .lload k ∧ q = pc + 2) ∨ (∃ n : Fin 4, i = .lload_n n ∧ n = k ∧ q = pc + 1)) (l : lAt L k = some (some (.long x))) (hw : xV d M q L (.long x :: st) hp Q) : xV d M pc L st hp Q := by
  refine xstep h (fun cl hl => ⟨cl, ?_, hl⟩) hw
  have hg := (hl.2 k _ l).2
  rcases hi with ⟨rfl, rfl⟩ | ⟨n, rfl, rfl, rfl⟩
  · simp [amDo, amStep, amLd, hg, amIsJ]
  · simp [amDo, amStep, amLd, hg, amIsJ]
theorem xlld (q : Nat) {n : Fin 4} {x : Int64} (h : xI M pc (.lload_n n) a b) (e : q = pc + 1) (l : lAt L (n : Nat) = some (some (.long x))) (hw : xV d M q L (.long x :: st) hp Q) : xV d M pc L st hp Q :=
  xlldG q h (Or.inr ⟨n, rfl, rfl, e⟩) l hw
theorem xlstG (q : Nat) {i : Instr} {k : Nat} {x : Int64} (h : xI M pc i a b) (hi : (i = .lstore k ∧ q = pc + 2) ∨ (∃ n : Fin 4, i = .lstore_n n ∧ n = k ∧ q = pc + 1)) (hk : Nat.ble (k + 2) M.2.1 = true) (hw : xV d M q (qSet2 L k (.long x)) st hp Q) : xV d M pc L (.long x :: st) hp Q := by
  refine xstep h (fun cl hl => ⟨amSet2 cl k (.long x), ?_, lq_set2 hl k rfl⟩) hw
  have hk : k + 1 < M.2.1 := Nat.le_of_ble_eq_true hk
  rcases hi with ⟨rfl, rfl⟩ | ⟨n, rfl, rfl, rfl⟩
  · simp [amDo, amStep, amSt2, amIsJ, hk]
  · simp [amDo, amStep, amSt2, amIsJ, hk]
theorem xlst (q : Nat) {n : Fin 4} {x : Int64} (h : xI M pc (.lstore_n n) a b) (e : q = pc + 1) (hk : Nat.ble ((n : Nat) + 2) M.2.1 = true) (hw : xV d M q (qSet2 L (n : Nat) (.long x)) st hp Q) : xV d M pc L (.long x :: st) hp Q :=
  xlstG q h (Or.inr ⟨n, rfl, rfl, e⟩) hk hw
/-- a reference stored in a local -/
theorem xast (q : Nat) {n : Fin 4} {x : Nat} (h : xI M pc (.astore_n n) a b) (e : q = pc + 1) (hk : Nat.ble ((n : Nat) + 1) M.2.1 = true) (hx : amOk 84 (.ref x) = true) (hw : xV d M q (qSet L (n : Nat) (.ref x)) st hp Q) : xV d M pc L (.ref x :: st) hp Q := by
  refine xstep h (fun cl hl => ⟨amSet1 cl n (.ref x), ?_, lq_setV hl _ hx⟩) hw
  have hk : (n : Nat) < M.2.1 := Nat.le_of_ble_eq_true hk
  subst e
  simp [amDo, amStep, amSt1, isA_ref, hk]
theorem xnull (q : Nat) {i : Int} {x : Nat} (h : xI M pc (.ifnull i) a b) (e : q = pc + 3) (hw : xV d M q L st hp Q) : xV d M pc L (.ref x :: st) hp Q := by
  refine xstep h (fun cl hl => ⟨cl, ?_, hl⟩) hw
  subst e
  simp [amDo, amStep]
theorem xnonnull {i : Int} {x : Nat} (h : xI M pc (.ifnonnull i) a b) (hw : xV d M a L st hp Q) : xV d M pc L (.ref x :: st) hp Q := by
  refine xstep h (fun cl hl => ⟨cl, ?_, hl⟩) hw
  simp [amDo, amStep]
theorem xlcst (q : Nat) (m : Int) {n : Fin 2} (h : xI M pc (.lconst n) a b) (e : q = pc + 1) (hm : (Int64.ofNat (n : Nat)).toInt = m) (hw : ∀ z : Int64, z.toInt = m → xV d M q L (.long z :: st) hp Q) : xV d M pc L st hp Q := by
  refine xstep h (fun cl hl => ⟨cl, ?_, hl⟩) (hw _ hm)
  subst e
  simp [amDo, amStep]
theorem xldc2 (q : Nat) (m : Int) {i : _} (h : xI M pc (.ldc2_w i) a b) (e : q = pc + 3) (hm : (Int64.ofNat a).toInt = m) (hw : ∀ z : Int64, z.toInt = m → xV d M q L (.long z :: st) hp Q) : xV d M pc L st hp Q := by
  refine xstep h (fun cl hl => ⟨cl, ?_, hl⟩) (hw _ hm)
  subst e
  simp [amDo, amStep]
theorem xl2i (q : Nat) {x : Int64} (h : xI M pc .l2i a b) (e : q = pc + 1) (hw : xV d M q L (.int x.toInt32 :: st) hp Q) : xV d M pc L (.long x :: st) hp Q := by
  refine xstep h (fun cl hl => ⟨cl, ?_, hl⟩) hw
  subst e
  simp [amDo, amStep, amJ]
theorem xlneg (q : Nat) {x : Int64} (h : xI M pc .lneg a b) (e : q = pc + 1) (hw : xV d M q L (.long (-x) :: st) hp Q) : xV d M pc L (.long x :: st) hp Q := by
  refine xstep h (fun cl hl => ⟨cl, ?_, hl⟩) hw
  subst e
  simp [amDo, amStep, amJ]
theorem xladd (q : Nat) {x y : Int64} (h : xI M pc .ladd a b) (e : q = pc + 1) (hw : xV d M q L (.long (x + y) :: st) hp Q) : xV d M pc L (.long y :: .long x :: st) hp Q := by
  refine xstep h (fun cl hl => ⟨cl, ?_, hl⟩) hw
  subst e
  simp [amDo, amStep, amLL]
theorem xlsub (q : Nat) {x y : Int64} (h : xI M pc .lsub a b) (e : q = pc + 1) (hw : xV d M q L (.long (x - y) :: st) hp Q) : xV d M pc L (.long y :: .long x :: st) hp Q := by
  refine xstep h (fun cl hl => ⟨cl, ?_, hl⟩) hw
  subst e
  simp [amDo, amStep, amLL]
theorem xland (q : Nat) {x y : Int64} (h : xI M pc .land a b) (e : q = pc + 1) (hw : xV d M q L (.long (x &&& y) :: st) hp Q) : xV d M pc L (.long y :: .long x :: st) hp Q := by
  refine xstep h (fun cl hl => ⟨cl, ?_, hl⟩) hw
  subst e
  simp [amDo, amStep, amLL]
theorem xlor (q : Nat) {x y : Int64} (h : xI M pc .lor a b) (e : q = pc + 1) (hw : xV d M q L (.long (x ||| y) :: st) hp Q) : xV d M pc L (.long y :: .long x :: st) hp Q := by
  refine xstep h (fun cl hl => ⟨cl, ?_, hl⟩) hw
  subst e
  simp [amDo, amStep, amLL]
theorem xlcmp (q : Nat) {x y : Int64} (h : xI M pc .lcmp a b) (e : q = pc + 1) (hw : ∀ z : Int32, ((z.toInt = -1 ∧ x.toInt < y.toInt) ∨ (z.toInt = 0 ∧ x.toInt = y.toInt) ∨ (z.toInt = 1 ∧ y.toInt < x.toInt)) → xV d M q L (.int z :: st) hp Q) : xV d M pc L (.long y :: .long x :: st) hp Q := by
  refine xstep h (fun cl hl => ⟨cl, ?_, hl⟩) (hw (lg_cmp x y) (lg_cmp_t x y))
  subst e
  simp [amDo, amStep, amLL]
theorem xlshl (q : Nat) {x : Int64} {y : Int32} (h : xI M pc .lshl a b) (e : q = pc + 1) (hw : xV d M q L (.long (x <<< (y.toInt64 &&& 63)) :: st) hp Q) : xV d M pc L (.int y :: .long x :: st) hp Q := by
  refine xstep h (fun cl hl => ⟨cl, ?_, hl⟩) hw
  subst e
  simp [amDo, amStep, amLI]
theorem xretJ {x : Int64} (h : xI M pc .lreturn a b) (hr : M.2.2.2.2.1 = some .long) (hQ : Q (.inl (some (.long x))) hp) : xV d M pc L [.long x] hp Q := by
  intro cl hl
  obtain ⟨hu, r, hr2⟩ := h
  rw [hr2]
  refine bWp_ret (q := (pc, .lreturn, a, b)) ?_ hQ
  simp [amDo, amRetV, hr, narrow]
end XJ
/-- arguments with their places: a long takes two -/
def qArgs : List Value → List (Option Value)
  | [] => []
  | v :: r => bif isJ (some v) then some v :: none :: qArgs r else some v :: qArgs r
def qAv (av : List Value) : Bool := av.all (fun v => amOk 84 v)
theorem qAv_ok : ∀ (av : List Value) (i : Nat), qAv av = true → amOkL 84 (lv_args i av) = true
  | [], i, _ => rfl
  | u :: r, i, h => by
    unfold qAv at h
    rw [List.all_cons] at h
    simp only [Bool.and_eq_true] at h
    unfold lv_args amOkL
    rw [List.all_cons]
    exact Bool.and_eq_true_iff.mpr ⟨h.1, qAv_ok r _ h.2⟩
theorem qAv_get : ∀ (av : List Value) (i : Nat), ∀ k v, lAt (qArgs av) k = some (some v) → amGet (lv_args i av) (i + k) = some v
  | [], i, k, v, e => by cases e
  | u :: r, i, k, v, e => by
    unfold qArgs at e
    unfold lv_args amGet
    dsimp only
    cases hj : isJ (some u) with
    | true =>
      rw [hj] at e
      have hc : u.category = 2 := by cases u <;> first | rfl | cases hj
      match k, e with
      | 0, e => cases e; rw [if_pos (by omega)]
      | 1, e => cases e
      | k + 2, e =>
        rw [if_neg (by omega), hc, show i + (k + 2) = i + 2 + k by omega]
        exact qAv_get r (i + 2) k v e
    | false =>
      rw [hj] at e
      have hc := isJ_cat hj
      match k, e with
      | 0, e => cases e; rw [if_pos (by omega)]
      | k + 1, e =>
        rw [if_neg (by omega), hc, show i + (k + 1) = i + 1 + k by omega]
        exact qAv_get r (i + 1) k v e
theorem xinJ {d k : Nat} {M : amM} {av : List Value} {hp : amH} {R : xQ} (hM : amGG k = some M) (h0 : amSeek M.1 0 = M.1) (ha : qAv av = true) (hw : xV d M 0 (qArgs av) [] hp R) : xK d k av hp R := by
  refine ⟨M, hM, ?_⟩
  have := hw (lv_args 0 av) ⟨qAv_ok av 0 ha, fun k v e => by
    have g2 := qAv_get av 0 k v e
    rw [Nat.zero_add] at g2
    exact ⟨trivial, g2⟩⟩
  rw [h0] at this
  exact this
end
/-! ##### 19.m.033.30b ##### -/
section
/-! ===== longs as sets of numbers below 62 ===== -/
def jN (x : Int64) : Nat := x.toBitVec.toNat
theorem jN_t {x : Int64} {n : Nat} (h : x.toInt = (n : Int)) : jN x = n ∧ n < 9223372036854775808 := by
  have e : x.toInt = x.toBitVec.toInt := rfl
  have l := x.toBitVec.isLt
  unfold jN
  rw [e, BitVec.toInt_eq_toNat_cond] at h
  split at h
  · omega
  · omega
theorem t_jN {x : Int64} (h : jN x < 9223372036854775808) : x.toInt = ((jN x : Nat) : Int) := by
  have e : x.toInt = x.toBitVec.toInt := rfl
  unfold jN at *
  rw [e, BitVec.toInt_eq_toNat_cond, if_pos (by omega)]
theorem j_or {x y : Int64} {a b : Nat} (hx : x.toInt = (a : Int)) (hy : y.toInt = (b : Int)) : (x ||| y).toInt = ((a ||| b : Nat) : Int) := by
  obtain ⟨e1, l1⟩ := jN_t hx
  obtain ⟨e2, l2⟩ := jN_t hy
  have l : a ||| b < 2 ^ 63 := Nat.or_lt_two_pow (by omega) (by omega)
  have e3 : jN (x ||| y) = a ||| b := by
    unfold jN at *
    rw [Int64.toBitVec_or, BitVec.toNat_or, e1, e2]
  rw [t_jN (by rw [e3]; omega), e3]
theorem j_and {x y : Int64} {a b : Nat} (hx : x.toInt = (a : Int)) (hy : y.toInt = (b : Int)) : (x &&& y).toInt = ((a &&& b : Nat) : Int) := by
  obtain ⟨e1, l1⟩ := jN_t hx
  obtain ⟨e2, l2⟩ := jN_t hy
  have l : a &&& b ≤ a := Nat.and_le_left
  have e3 : jN (x &&& y) = a &&& b := by
    unfold jN at *
    rw [Int64.toBitVec_and, BitVec.toNat_and, e1, e2]
  rw [t_jN (by rw [e3]; omega), e3]
theorem j_sub {x y : Int64} {a b : Nat} (hx : x.toInt = (a : Int)) (hy : y.toInt = (b : Int)) (h : b ≤ a) : (x - y).toInt = ((a - b : Nat) : Int) := by
  obtain ⟨e1, l1⟩ := jN_t hx
  rw [Int64.toInt_sub, hx, hy]
  have : ((a : Int) - (b : Int)) = ((a - b : Nat) : Int) := by omega
  rw [this]
  exact Int.bmod_eq_of_le (by omega) (by omega)
theorem j_sh : ∀ k : Fin 62, ((Int32.ofNat k.1).toInt64 &&& 63).toBitVec.smod 64 = BitVec.ofNat 64 k.1 := by decide
theorem j_shl {o : Int64} {c : Int32} {k : Nat} (ho : o.toInt = 1) (hc : c.toInt = (k : Int)) (hk : k < 62) : (o <<< (c.toInt64 &&& 63)).toInt = ((2 ^ k : Nat) : Int) := by
  obtain ⟨e1, -⟩ := jN_t (n := 1) ho
  have e2 : (c.toInt64 &&& 63).toBitVec.smod 64 = BitVec.ofNat 64 k := by
    have : c = Int32.ofNat k := Int32.toInt_inj.mp (by rw [hc, Int32.toInt_ofNat_of_lt (by omega)])
    rw [this]
    exact j_sh ⟨k, hk⟩
  have h1 : 2 ^ k ≤ 2 ^ 61 := Nat.pow_le_pow_right (by decide) (by omega)
  have e3 : jN (o <<< (c.toInt64 &&& 63)) = 2 ^ k := by
    unfold jN at *
    rw [show (o <<< (c.toInt64 &&& 63)).toBitVec = o.toBitVec <<< ((c.toInt64 &&& 63).toBitVec.smod 64) from rfl, e2, BitVec.shiftLeft_eq', BitVec.toNat_shiftLeft, e1, BitVec.toNat_ofNat, Nat.mod_eq_of_lt (show k < 2 ^ 64 by omega), Nat.shiftLeft_eq, Nat.one_mul, Nat.mod_eq_of_lt (by omega)]
  rw [t_jN (by rw [e3]; omega), e3]
end
/-! ##### 19.m.034.31a ##### -/
section
/-! ===== systems with their tallies, what was; snapshots ===== -/
/-- a system: how many points, the third points, the tally -/
abbrev sR : Type := Nat × sT × (Nat → Int)
def rowOk (r : Nat → Int) (q : sR) : Prop := r 0 = (q.1 : Int) ∧ sOk q.1 q.2.1 ∧ (∀ u v, u < 15 → v < 15 → r (4 + 15 * u + v) = q.2.1 u v) ∧ (∀ u v, ¬ (u < 15 ∧ v < 15) → q.2.1 u v = -1) ∧ ∀ i, i < 3 → r (i + 1) = q.2.2 i
theorem bY_bx {W : List Nat} {hp hp1 : amH} {c i : Nat} {v : Value} (U : rV hp hp1 c i v) (h : c ∈ W) : bFx W hp hp1 := fun c1 k e => U.2 c1 k (fun z => e (by rw [z.1]; exact h))
/-- a snapshot's cell -/
def sn (s : Nat) : Prop := s ∈ [16, 19, 22, 25, 28, 31, 34, 37, 40, 43, 46]
theorem sn_c {s : Nat} (h : sn s) : s = 16 ∨ s = 19 ∨ s = 22 ∨ s = 25 ∨ s = 28 ∨ s = 31 ∨ s = 34 ∨ s = 37 ∨ s = 40 ∨ s = 43 ∨ s = 46 := by
  unfold sn at h
  simpa using h
theorem sn_T {s : Nat} (h : sn s) : bTT s = some (6, 4, [.inl (2147483648, 2147483663), .inl (2147483648, 2147483683), .inr (.inr [17, 20, 23, 26, 29, 32, 35, 38, 41, 44, 47]), .inr (.inr [18, 21, 24, 27, 30, 33, 36, 39, 42, 45, 48])]) := by rcases sn_c h with rfl | rfl | rfl | rfl | rfl | rfl | rfl | rfl | rfl | rfl | rfl <;> rfl
theorem sn_T1 {s : Nat} (h : sn s) : bTT (s + 1) = some (32, 35, [.inl (0, 4294967295)]) := by rcases sn_c h with rfl | rfl | rfl | rfl | rfl | rfl | rfl | rfl | rfl | rfl | rfl <;> rfl
theorem sn_T2 {s : Nat} (h : sn s) : bTT (s + 2) = some (7, 3, [.inl (0, 4294967295), .inl (0, 4294967295), .inl (0, 4294967295)]) := by rcases sn_c h with rfl | rfl | rfl | rfl | rfl | rfl | rfl | rfl | rfl | rfl | rfl <;> rfl
theorem sn_lt {s : Nat} (h : sn s) : s < 84 := by have := sn_c h; omega
theorem sn_lt1 {s : Nat} (h : sn s) : s + 1 < 84 := by have := sn_c h; omega
theorem sn_lt2 {s : Nat} (h : sn s) : s + 2 < 84 := by have := sn_c h; omega
/-- a tally's cell -/
def ta (a : Nat) : Prop := a = 13 ∨ ∃ s, sn s ∧ a = s + 2
theorem ta_T {a : Nat} (h : ta a) : bTT a = some (7, 3, [.inl (0, 4294967295), .inl (0, 4294967295), .inl (0, 4294967295)]) := by
  rcases h with rfl | ⟨s, h, rfl⟩
  · rfl
  · exact sn_T2 h
theorem ta_lt {a : Nat} (h : ta a) : a < 84 := by
  rcases h with rfl | ⟨s, h, rfl⟩
  · decide
  · exact sn_lt2 h
/-- a snapshot holds its row and its tally -/
def snF (hp : amH) (s : Nat) : Prop := bFld hp s 2 = some (.ref (s + 1)) ∧ bFld hp s 3 = some (.ref (s + 2))
/-- a snapshot of a system -/
def snOk (hp : amH) (s : Nat) (q : sR) : Prop := rN hp s 0 = (q.1 : Int) ∧ sOk q.1 q.2.1 ∧ (∀ u v, ¬ (u < 15 ∧ v < 15) → q.2.1 u v = -1) ∧ rN hp s 1 = (((trL q.2.1 225).length : Nat) : Int) ∧ (∀ t, t < (trL q.2.1 225).length → rN hp (s + 1) t = ((mk3 q.2.1 ((trL q.2.1 225).getD t 0) : Nat) : Int)) ∧ ∀ i, i < 3 → rN hp (s + 2) i = q.2.2 i
theorem snOk_fr {hp hp1 : amH} {s : Nat} {q : sR} (h : snOk hp s q) (F : ∀ c, s ≤ c → c ≤ s + 2 → ∀ k, bFld hp1 c k = bFld hp c k) : snOk hp1 s q := by
  obtain ⟨h1, h2, h3, h4, h5, h6⟩ := h
  have e : ∀ c, s ≤ c → c ≤ s + 2 → ∀ k, rN hp1 c k = rN hp c k := fun c c1 c2 k => rN_eq (F c c1 c2 k)
  exact ⟨by rw [e s (by omega) (by omega)]; exact h1, h2, h3, by rw [e s (by omega) (by omega)]; exact h4, fun t ht => by rw [e _ (by omega) (by omega)]; exact h5 t ht, fun i hi => by rw [e _ (by omega) (by omega)]; exact h6 i hi⟩
theorem u9 : bUp 0 am_m9.1 = true := by decide +kernel
theorem u50 : bUp 0 am_m50.1 = true := by decide +kernel
theorem u51 : bUp 0 am_m51.1 = true := by decide +kernel
theorem u52 : bUp 0 am_m52.1 = true := by decide +kernel
theorem u53 : bUp 0 am_m53.1 = true := by decide +kernel
theorem u54 : bUp 0 am_m54.1 = true := by decide +kernel
theorem u89 : bUp 0 am_m89.1 = true := by decide +kernel
theorem u90 : bUp 0 am_m90.1 = true := by decide +kernel
theorem u93 : bUp 0 am_m93.1 = true := by decide +kernel
theorem u184 : bUp 0 am_m184.1 = true := by decide +kernel
theorem k_tyc {d : Nat} {hp : amH} {R : xQ} {a b : Nat} (ha : ta a) (hb : ta b) (hne : ¬ a = b) (hH : bHk 84 bTT hp) (hR : ∀ hp1, bHk 84 bTT hp1 → bFx [a] hp hp1 → (∀ i, i < 3 → rN hp1 a i = rN hp b i) → R (.inl none) hp1) : xK d 93 [.ref a, .ref b] hp R := by
  refine xin (M := am_m93) rfl rfl (by unfold xAv; simp [amOk, ta_lt ha, ta_lt hb, Value.category]) ?_
  refine xald 1 ⟨u93, _, rfl⟩ rfl rfl ?_
  refine xald 2 ⟨u93, _, rfl⟩ rfl rfl ?_
  refine xgetC 5 hH ⟨u93, _, rfl⟩ rfl (ta_lt hb) (by decide) (ta_T hb) rfl (by decide) (fun z2 h2 => ?_)
  have bm2 := aMin z2
  have bx2 := aMax z2
  refine xputC 8 hH ⟨u93, _, rfl⟩ rfl (ta_lt ha) (by decide) (ta_T ha) rfl (by decide) ⟨rfl, rfl⟩ (by omega) (by omega) (fun hp5 hH5 U5 => ?_)
  have s5 := U5.1
  have n5_a_1 : rN hp5 (a) 1 = rN hp (a) 1 := rU_ne U5 (by omega)
  have n5_a_2 : rN hp5 (a) 2 = rN hp (a) 2 := rU_ne U5 (by omega)
  have n5_b_0 : rN hp5 (b) 0 = rN hp (b) 0 := rU_ne U5 (by omega)
  have n5_b_1 : rN hp5 (b) 1 = rN hp (b) 1 := rU_ne U5 (by omega)
  have n5_b_2 : rN hp5 (b) 2 = rN hp (b) 2 := rU_ne U5 (by omega)
  refine xald 9 ⟨u93, _, rfl⟩ rfl rfl ?_
  refine xald 10 ⟨u93, _, rfl⟩ rfl rfl ?_
  refine xgetC 13 hH5 ⟨u93, _, rfl⟩ rfl (ta_lt hb) (by decide) (ta_T hb) rfl (by decide) (fun z10 h10 => ?_)
  have bm10 := aMin z10
  have bx10 := aMax z10
  refine xputC 16 hH5 ⟨u93, _, rfl⟩ rfl (ta_lt ha) (by decide) (ta_T ha) rfl (by decide) ⟨rfl, rfl⟩ (by omega) (by omega) (fun hp13 hH13 U13 => ?_)
  have s13 := U13.1
  have n13_a_0 : rN hp13 (a) 0 = rN hp5 (a) 0 := rU_ne U13 (by omega)
  have n13_a_2 : rN hp13 (a) 2 = rN hp5 (a) 2 := rU_ne U13 (by omega)
  have n13_b_0 : rN hp13 (b) 0 = rN hp5 (b) 0 := rU_ne U13 (by omega)
  have n13_b_1 : rN hp13 (b) 1 = rN hp5 (b) 1 := rU_ne U13 (by omega)
  have n13_b_2 : rN hp13 (b) 2 = rN hp5 (b) 2 := rU_ne U13 (by omega)
  refine xald 17 ⟨u93, _, rfl⟩ rfl rfl ?_
  refine xald 18 ⟨u93, _, rfl⟩ rfl rfl ?_
  refine xgetC 21 hH13 ⟨u93, _, rfl⟩ rfl (ta_lt hb) (by decide) (ta_T hb) rfl (by decide) (fun z18 h18 => ?_)
  have bm18 := aMin z18
  have bx18 := aMax z18
  refine xputC 24 hH13 ⟨u93, _, rfl⟩ rfl (ta_lt ha) (by decide) (ta_T ha) rfl (by decide) ⟨rfl, rfl⟩ (by omega) (by omega) (fun hp21 hH21 U21 => ?_)
  have s21 := U21.1
  have n21_a_0 : rN hp21 (a) 0 = rN hp13 (a) 0 := rU_ne U21 (by omega)
  have n21_a_1 : rN hp21 (a) 1 = rN hp13 (a) 1 := rU_ne U21 (by omega)
  have n21_b_0 : rN hp21 (b) 0 = rN hp13 (b) 0 := rU_ne U21 (by omega)
  have n21_b_1 : rN hp21 (b) 1 = rN hp13 (b) 1 := rU_ne U21 (by omega)
  have n21_b_2 : rN hp21 (b) 2 = rN hp13 (b) 2 := rU_ne U21 (by omega)
  exact xretV ⟨u93, _, rfl⟩ rfl (hR _ hH21 (((bFx_U U5 (by simp)).trans (bFx_U U13 (by simp))).trans (bFx_U U21 (by simp))) (fun i hi => by rcases (by omega : i = 0 ∨ i = 1 ∨ i = 2) with rfl | rfl | rfl <;> omega))
/-- the set of a triple of the board -/
theorem k_set {d : Nat} {hp : amH} {R : xQ} {o : Nat} {a : Int32} (ho : bo o) (hH : bHk 84 bTT hp) (hR : ∀ z : Int32, z.toInt = (if 0 ≤ a.toInt ∧ a.toInt < rN hp o 1 then rN hp (o + 4) a.toInt.toNat else 0) → R (.inl (some (.int z))) hp) : xK d 9 [.ref o, .int a] hp R := by
  have q1 := rb_c hH (bo_lt ho) (bo_T ho) (f := 1) rfl (by decide)
  refine xin (M := am_m9) rfl rfl (by unfold xAv; simp [amOk, bo_lt ho, Value.category]) ?_
  refine xild 1 ⟨u9, _, rfl⟩ rfl rfl ?_
  refine xif_lt 4 ⟨u9, _, rfl⟩ rfl (fun c1 => ?_) (fun c1 => ?_)
  · refine xcst 22 (0) ⟨u9, _, rfl⟩ rfl (by decide) (fun z21 h21 => ?_)
    exact xret ⟨u9, _, rfl⟩ rfl (hR _ (by rw [if_neg (by omega)]; exact h21))
  · refine xild 5 ⟨u9, _, rfl⟩ rfl rfl ?_
    refine xald 6 ⟨u9, _, rfl⟩ rfl rfl ?_
    refine xgetC 9 hH ⟨u9, _, rfl⟩ rfl (bo_lt ho) (by decide) (bo_T ho) rfl (by decide) (fun z6 h6 => ?_)
    refine xcmp_ge 12 ⟨u9, _, rfl⟩ rfl (fun c9 => ?_) (fun c9 => ?_)
    · refine xcst 22 (0) ⟨u9, _, rfl⟩ rfl (by decide) (fun z21 h21 => ?_)
      exact xret ⟨u9, _, rfl⟩ rfl (hR _ (by rw [if_neg (by omega)]; exact h21))
    · refine xald 13 ⟨u9, _, rfl⟩ rfl rfl ?_
      refine xgetD 16 (o + 4) hH ⟨u9, _, rfl⟩ rfl (bo_lt ho) (by decide) (bo_T ho) rfl (by decide) ?_
      refine xild 17 ⟨u9, _, rfl⟩ rfl rfl ?_
      refine xiald 18 (a).toInt.toNat hH ⟨u9, _, rfl⟩ rfl (bo_lt4 ho) (bo_T4 ho) (by omega) (by omega) (fun z17 h17 => ?_)
      refine xgoto ⟨u9, _, rfl⟩ ?_
      exact xret ⟨u9, _, rfl⟩ rfl (hR _ (by rw [if_pos (by omega)]; exact h17))
theorem bTT3 : bTT 3 = some (0, 6, [.inl (2147483648, 2147483663), .inl (2147483648, 2147483683), .inr (.inr [4]), .inr (.inr [5]), .inr (.inr [6]), .inr (.inr [7])]) := rfl
theorem l89 {d : Nat} {hp0 : amH} {R : xQ} {s b : Nat} (hs : sn s) (hb : ta b) (hne : ¬ s + 2 = b) (hne1 : ¬ b = s + 1) (F2 : snF hp0 s)
    (hR : ∀ hp1, bHk 84 bTT hp1 → bFx [s + 1, s + 2] hp0 hp1 → (∀ t : Nat, (t : Int) < rN hp0 3 1 → rN hp1 (s + 1) t = rN hp0 7 t) → (∀ i, i < 3 → rN hp1 (s + 2) i = rN hp0 b i) → R (.inl none) hp1) :
    ∀ (jj t : Nat) (w : Int32) (hp : amH), w.toInt = (t : Int) → t + jj = 35 → bHk 84 bTT hp → bFx [s + 1] hp0 hp → (∀ j, j < t → (j : Int) < rN hp0 3 1 → rN hp (s + 1) j = rN hp0 7 j) → xV (d + 1) am_m89 18 [some (.ref s), some (.ref 3), some (.ref b), some (.int w)] [] hp R := by
  have c := sn_c hs
  intro jj
  induction jj with
  | zero =>
    intro t w hp hw hj hH hF hA
    have q1 := rb_c hH (c := 3) (by decide) (bTT3) (f := 1) rfl (by decide)
    have f2 := (hF s 2 (by simp)).trans F2.1
    have f3 := (hF s 3 (by simp)).trans F2.2
    have e1 : rN hp 3 1 = rN hp0 3 1 := bFx_n hF (by simp; omega)
    refine xild 19 ⟨u89, _, rfl⟩ rfl rfl ?_
    refine xald 20 ⟨u89, _, rfl⟩ rfl rfl ?_
    refine xgetF 23 (s + 1) hH ⟨u89, _, rfl⟩ rfl (sn_lt hs) (by decide) (sn_T hs) (f2) ?_
    refine xlen 24 hH ⟨u89, _, rfl⟩ rfl (sn_lt1 hs) (sn_T1 hs) (by decide) (by decide) (fun z23 h23 => ?_)
    refine xcmp_ge 27 ⟨u89, _, rfl⟩ rfl (fun c24 => ?_) (fun c24 => ?_)
    · refine xald 45 ⟨u89, _, rfl⟩ rfl rfl ?_
      refine xgetF 48 (s + 2) hH ⟨u89, _, rfl⟩ rfl (sn_lt hs) (by decide) (sn_T hs) (f3) ?_
      refine xald 49 ⟨u89, _, rfl⟩ rfl rfl ?_
      refine xcallC 52 (o := s + 2) [.ref (b)] [] hH ⟨u89, _, rfl⟩ rfl rfl (sn_lt2 hs) (sn_T2 hs) (by decide) rfl ⟨rfl, rfl, rfl, rfl⟩ rfl (k_tyc (Or.inr ⟨s, hs, rfl⟩) hb hne hH (fun hp49 hH49 F49 E49 => ⟨_, rfl, ?_⟩))
      exact xretV ⟨u89, _, rfl⟩ rfl (hR _ hH49 ((hF.mono (by simp)).trans (F49.mono (by simp))) (fun t ht => by rw [bFx_n F49 (by simp)]; exact hA t (by omega) ht) (fun i hi => by rw [E49 i hi, bFx_n hF (by simp; omega)]))
    · omega
  | succ jj ih =>
    intro t w hp hw hj hH hF hA
    have q1 := rb_c hH (c := 3) (by decide) (bTT3) (f := 1) rfl (by decide)
    have f2 := (hF s 2 (by simp)).trans F2.1
    have f3 := (hF s 3 (by simp)).trans F2.2
    have e1 : rN hp 3 1 = rN hp0 3 1 := bFx_n hF (by simp; omega)
    refine xild 19 ⟨u89, _, rfl⟩ rfl rfl ?_
    refine xald 20 ⟨u89, _, rfl⟩ rfl rfl ?_
    refine xgetF 23 (s + 1) hH ⟨u89, _, rfl⟩ rfl (sn_lt hs) (by decide) (sn_T hs) (f2) ?_
    refine xlen 24 hH ⟨u89, _, rfl⟩ rfl (sn_lt1 hs) (sn_T1 hs) (by decide) (by decide) (fun z23 h23 => ?_)
    refine xcmp_ge 27 ⟨u89, _, rfl⟩ rfl (fun c24 => ?_) (fun c24 => ?_)
    · omega
    · refine xald 28 ⟨u89, _, rfl⟩ rfl rfl ?_
      refine xgetF 31 (s + 1) hH ⟨u89, _, rfl⟩ rfl (sn_lt hs) (by decide) (sn_T hs) (f2) ?_
      refine xild 32 ⟨u89, _, rfl⟩ rfl rfl ?_
      refine xald 33 ⟨u89, _, rfl⟩ rfl rfl ?_
      refine xild 34 ⟨u89, _, rfl⟩ rfl rfl ?_
      refine xcallC 37 (o := 3) [.int _] [.int _, .ref (s + 1)] hH ⟨u89, _, rfl⟩ rfl rfl (by decide) rfl (by decide) rfl ⟨rfl, rfl, rfl, rfl⟩ (by simp [amOkS, amOk, sn_lt1 hs]) (k_set (o := 3) (Or.inl rfl) hH (fun z34 h34 => ⟨_, rfl, ?_⟩))
      have bm34 := aMin z34
      have bx34 := aMax z34
      refine xiast 38 (w).toInt.toNat hH ⟨u89, _, rfl⟩ rfl (sn_lt1 hs) (sn_T1 hs) (by omega) (by omega) (by omega) (by omega) (fun hp37 hH37 U37 => ?_)
      have s37 := U37.1
      refine xinc 41 (1) ⟨u89, _, rfl⟩ rfl rfl rfl (by decide) (by omega) (by omega) (fun z38 h38 => ?_)
      refine xgoto ⟨u89, _, rfl⟩ ?_
      exact ih (t + 1) _ hp37 (by omega) (by omega) hH37 (hF.trans (bFx_U U37 (by simp))) (fun j hj2 hj3 => by
        by_cases g : j = t
        · subst g
          have := U37.1
          rw [show w.toInt.toNat = j by omega] at this h34
          rw [this, h34, if_pos (by omega), bFx_n hF (by simp; omega)]
        · rw [rU_ne U37 (by omega)]
          exact hA j (by omega) hj3)
/-- a system kept -/
theorem k_keep {d : Nat} {hp : amH} {R : xQ} {s V : Nat} {T : sT} (hs : sn s) (F2 : snF hp s) (hH : bHk 84 bTT hp) (hB : bdOk hp 3 V T) (hL : lsN hp 3 T 225)
    (hR : ∀ hp1, bHk 84 bTT hp1 → bFx [s, s + 1, s + 2] hp hp1 → snF hp1 s → snOk hp1 s (V, T, rN hp 13) → R (.inl none) hp1) : xK (d + 1) 89 [.ref s, .ref 3, .ref 13] hp R := by
  have c := sn_c hs
  have bV := hB.1
  have hV := hB.2.1.2.1
  have b1 := rb_c hH (c := 3) (by decide) (bTT3) (f := 1) rfl (by decide)
  refine xin (M := am_m89) rfl rfl (by unfold xAv; simp [amOk, sn_lt hs, Value.category]) ?_
  refine xald 1 ⟨u89, _, rfl⟩ rfl rfl ?_
  refine xald 2 ⟨u89, _, rfl⟩ rfl rfl ?_
  refine xgetC 5 hH ⟨u89, _, rfl⟩ rfl (by decide) (by decide) rfl rfl (by decide) (fun z2 h2 => ?_)
  refine xputC 8 hH ⟨u89, _, rfl⟩ rfl (sn_lt hs) (by decide) (sn_T hs) rfl (by decide) ⟨rfl, rfl⟩ (by omega) (by omega) (fun hp5 hH5 U5 => ?_)
  have s5 := U5.1
  have n5_3_0 : rN hp5 (3) 0 = rN hp (3) 0 := rU_ne U5 (by omega)
  have n5_3_1 : rN hp5 (3) 1 = rN hp (3) 1 := rU_ne U5 (by omega)
  refine xald 9 ⟨u89, _, rfl⟩ rfl rfl ?_
  refine xald 10 ⟨u89, _, rfl⟩ rfl rfl ?_
  refine xgetC 13 hH5 ⟨u89, _, rfl⟩ rfl (by decide) (by decide) rfl rfl (by decide) (fun z10 h10 => ?_)
  refine xputC 16 hH5 ⟨u89, _, rfl⟩ rfl (sn_lt hs) (by decide) (sn_T hs) rfl (by decide) ⟨rfl, rfl⟩ (by omega) (by omega) (fun hp13 hH13 U13 => ?_)
  have s13 := U13.1
  have n13_3_0 : rN hp13 (3) 0 = rN hp5 (3) 0 := rU_ne U13 (by omega)
  have n13_3_1 : rN hp13 (3) 1 = rN hp5 (3) 1 := rU_ne U13 (by omega)
  refine xcst 17 (0) ⟨u89, _, rfl⟩ rfl (by decide) (fun z16 h16 => ?_)
  refine xist 18 ⟨u89, _, rfl⟩ rfl rfl ?_
  have F13 : bFx [s] hp hp13 := (bFx_U U5 (by simp)).trans (bFx_U U13 (by simp))
  have g2 : snF hp13 s := ⟨((U13.2 s 2 (by omega)).trans (U5.2 s 2 (by omega))).trans F2.1, ((U13.2 s 3 (by omega)).trans (U5.2 s 3 (by omega))).trans F2.2⟩
  exact l89 (b := 13) hs (Or.inl rfl) (by omega) (by omega) g2 (fun hp1 k1 k2 k3 k4 => hR hp1 k1 ((F13.mono (by simp)).trans (k2.mono (by simp))) ⟨(k2 s 2 (by simp)).trans g2.1, (k2 s 3 (by simp)).trans g2.2⟩ ⟨by rw [bFx_n k2 (by simp)]; have u5 := U5.1; have := rU_ne U13 (c1 := s) (i1 := 0) (by omega); show rN hp13 s 0 = (V : Int); omega, hB.2.1, hB.2.2.2.1, by rw [bFx_n k2 (by simp), U13.1, h10, rU_ne U5 (by omega)]; exact hL.1, fun t ht => by
    have ht : t < (trL T 225).length := ht
    have l1 := hL.1
    have l2 := hL.2.1 t ht
    rw [k3 t (by rw [bFx_n F13 (by simp; omega)]; omega), bFx_n F13 (by simp; omega)]
    exact l2, fun i hi => by rw [k4 i hi, bFx_n F13 (by simp; omega)]⟩) 35 0 _ hp13 (by omega) (by omega) hH13 bFx.refl (fun j hj => absurd hj (Nat.not_lt_zero j))
end
/-! ##### 19.m.035.31b ##### -/
section
/-! ===== the class keeps what was ===== -/
theorem sn_mod {s : Nat} (h : sn s) : s % 3 = 1 ∧ 16 ≤ s ∧ s ≤ 46 := by have := sn_c h; omega
theorem sn_is {hp : amH} {s : Nat} (hH : bHk 84 bTT hp) (h : sn s) : amIsSn hp (.ref s) = true := by
  obtain ⟨vs, g1, -⟩ := x_row2 hH (sn_lt h) (sn_T h)
  simp [amIsSn, g1]
theorem sn_bY {s : Nat} (h : sn s) : bYr 84 (.inr (.inr [16, 19, 22, 25, 28, 31, 34, 37, 40, 43, 46])) (.ref s) := ⟨s, rfl, sn_lt h, h⟩
/-- what the class keeps: how many, which; the saved one -/
def hyS (hp : amH) (sv : Option sR) : Prop := match sv with
  | none => rN hp 14 3 = 0
  | some q => rN hp 14 3 = 1 ∧ snOk hp 16 q
def hyA (hp : amH) (f : Nat → Nat) : Prop := (∀ k, k < 10 → sn (f k) ∧ ¬ f k = 16 ∧ bFld hp 15 k = some (.ref (f k))) ∧ ∀ j k, j < 10 → k < 10 → f j = f k → j = k
def hyC (hp : amH) (n : Nat) (h : Nat → sR) (sv : Option sR) : Prop := rN hp 14 0 = (n : Int) ∧ n ≤ 10 ∧ (∀ s, sn s → snF hp s) ∧ (∃ f, hyA hp f ∧ ∀ k, k < n → snOk hp (f k) (h k)) ∧ hyS hp sv
def hyF (hp hp1 : amH) : Prop := ∀ c k, ¬ (14 ≤ c ∧ c ≤ 48) → bFld hp1 c k = bFld hp c k
theorem hyF.trans {a b c : amH} (h1 : hyF a b) (h2 : hyF b c) : hyF a c := fun i k e => (h2 i k e).trans (h1 i k e)
theorem hyF_n {hp hp1 : amH} (h : hyF hp hp1) {c k : Nat} (e : ¬ (14 ≤ c ∧ c ≤ 48)) : rN hp1 c k = rN hp c k := rN_eq (h c k e)
theorem hyF_V {hp hp1 : amH} {c i : Nat} {v : Value} (U : rV hp hp1 c i v) (h : 14 ≤ c ∧ c ≤ 48) : hyF hp hp1 := fun c1 k e => U.2 c1 k (fun z => e (by rw [z.1]; exact h))
theorem hyF_U {hp hp1 : amH} {c i : Nat} {m : Int} (U : rU hp hp1 c i m) (h : 14 ≤ c ∧ c ≤ 48) : hyF hp hp1 := fun c1 k e => U.2 c1 k (fun z => e (by rw [z.1]; exact h))
theorem hyF_x {W : List Nat} {hp hp1 : amH} (F : bFx W hp hp1) (h : ∀ c, c ∈ W → 14 ≤ c ∧ c ≤ 48) : hyF hp hp1 := fun c1 k e => F c1 k (fun z => e (h c1 z))
/-- the first row goes to the end -/
theorem l51 {d : Nat} {hp0 : amH} {R : xQ} {f : Nat → Nat} (hA : hyA hp0 f)
    (hR : ∀ hp1, bHk 84 bTT hp1 → hyF hp0 hp1 → (∀ c k, ¬ c = 15 → ¬ (c = 14 ∧ k = 0) → bFld hp1 c k = bFld hp0 c k) → rN hp1 14 0 = 9 → (∀ k, k < 9 → bFld hp1 15 k = some (.ref (f (k + 1)))) → bFld hp1 15 9 = some (.ref (f 0)) → R (.inl none) hp1) :
    ∀ (jj t : Nat) (w : Int32) (hp : amH), w.toInt = (t : Int) → 1 ≤ t → t + jj = 10 → bHk 84 bTT hp → (∀ c k, ¬ c = 15 → bFld hp c k = bFld hp0 c k) → (∀ k, k + 1 < t → bFld hp 15 k = some (.ref (f (k + 1)))) → (∀ k, t ≤ k + 1 → k < 10 → bFld hp 15 k = some (.ref (f k))) → xV d am_m51 9 [some (.ref 14), some (.ref (f 0)), some (.int w)] [] hp R := by
  intro jj
  induction jj with
  | zero =>
    intro t w hp hw ht hj hH hF h1 h2
    refine xild 10 ⟨u51, _, rfl⟩ rfl rfl ?_
    refine xald 11 ⟨u51, _, rfl⟩ rfl rfl ?_
    refine xgetD 14 (15) hH ⟨u51, _, rfl⟩ rfl (by decide) (by decide) rfl rfl (by decide) ?_
    refine xlen 15 hH ⟨u51, _, rfl⟩ rfl (by decide) rfl (by decide) (by decide) (fun z14 h14 => ?_)
    refine xcmp_ge 18 ⟨u51, _, rfl⟩ rfl (fun c15 => ?_) (fun c15 => ?_)
    · refine xald 39 ⟨u51, _, rfl⟩ rfl rfl ?_
      refine xgetD 42 (15) hH ⟨u51, _, rfl⟩ rfl (by decide) (by decide) rfl rfl (by decide) ?_
      refine xald 43 ⟨u51, _, rfl⟩ rfl rfl ?_
      refine xgetD 46 (15) hH ⟨u51, _, rfl⟩ rfl (by decide) (by decide) rfl rfl (by decide) ?_
      refine xlen 47 hH ⟨u51, _, rfl⟩ rfl (by decide) rfl (by decide) (by decide) (fun z46 h46 => ?_)
      refine xcst 48 (1) ⟨u51, _, rfl⟩ rfl (by decide) (fun z47 h47 => ?_)
      refine xsub 49 _ ⟨u51, _, rfl⟩ rfl rfl (by omega) (by omega) (fun z48 h48 => ?_)
      refine xald 50 ⟨u51, _, rfl⟩ rfl rfl ?_
      refine xaast 51 (9) (f 0) hH ⟨u51, _, rfl⟩ rfl (by decide) rfl (by omega) (by omega) rfl (sn_bY (hA.1 0 (by omega)).1) (sn_is hH (hA.1 0 (by omega)).1) (fun hp50 hH50 U50 => ?_)
      refine xald 52 ⟨u51, _, rfl⟩ rfl rfl ?_
      refine xald 53 ⟨u51, _, rfl⟩ rfl rfl ?_
      refine xgetD 56 (15) hH50 ⟨u51, _, rfl⟩ rfl (by decide) (by decide) rfl rfl (by decide) ?_
      refine xlen 57 hH50 ⟨u51, _, rfl⟩ rfl (by decide) rfl (by decide) (by decide) (fun z56 h56 => ?_)
      refine xcst 58 (1) ⟨u51, _, rfl⟩ rfl (by decide) (fun z57 h57 => ?_)
      refine xsub 59 _ ⟨u51, _, rfl⟩ rfl rfl (by omega) (by omega) (fun z58 h58 => ?_)
      refine xputC 62 hH50 ⟨u51, _, rfl⟩ rfl (by decide) (by decide) rfl rfl (by decide) ⟨rfl, rfl⟩ (by omega) (by omega) (fun hp59 hH59 U59 => ?_)
      have s59 := U59.1
      exact xretV ⟨u51, _, rfl⟩ rfl (hR hp59 hH59 (hyF.trans (b := hp) (fun c k e => hF c k (by omega)) ((hyF_V U50 (by decide)).trans (hyF_U U59 (by decide)))) (fun c k e1 e2 => (U59.2 c k (fun z => e2 ⟨z.1, z.2⟩)).trans ((U50.2 c k (fun z => e1 z.1)).trans (hF c k e1))) (by omega) (fun k hk => (U59.2 15 k (by omega)).trans ((U50.2 15 k (by omega)).trans (h1 k (by omega)))) ((U59.2 15 9 (by omega)).trans U50.1))
    · omega
  | succ jj ih =>
    intro t w hp hw ht hj hH hF h1 h2
    refine xild 10 ⟨u51, _, rfl⟩ rfl rfl ?_
    refine xald 11 ⟨u51, _, rfl⟩ rfl rfl ?_
    refine xgetD 14 (15) hH ⟨u51, _, rfl⟩ rfl (by decide) (by decide) rfl rfl (by decide) ?_
    refine xlen 15 hH ⟨u51, _, rfl⟩ rfl (by decide) rfl (by decide) (by decide) (fun z14 h14 => ?_)
    refine xcmp_ge 18 ⟨u51, _, rfl⟩ rfl (fun c15 => ?_) (fun c15 => ?_)
    · omega
    · refine xald 19 ⟨u51, _, rfl⟩ rfl rfl ?_
      refine xgetD 22 (15) hH ⟨u51, _, rfl⟩ rfl (by decide) (by decide) rfl rfl (by decide) ?_
      refine xild 23 ⟨u51, _, rfl⟩ rfl rfl ?_
      refine xcst 24 (1) ⟨u51, _, rfl⟩ rfl (by decide) (fun z23 h23 => ?_)
      refine xsub 25 _ ⟨u51, _, rfl⟩ rfl rfl (by omega) (by omega) (fun z24 h24 => ?_)
      refine xald 26 ⟨u51, _, rfl⟩ rfl rfl ?_
      refine xgetD 29 (15) hH ⟨u51, _, rfl⟩ rfl (by decide) (by decide) rfl rfl (by decide) ?_
      refine xild 30 ⟨u51, _, rfl⟩ rfl rfl ?_
      refine xaald 31 (t) (f t) hH ⟨u51, _, rfl⟩ rfl (by decide) rfl (by omega) (by omega) (h2 t (by omega) (by omega)) ?_
      refine xaast 32 (t - 1) (f t) hH ⟨u51, _, rfl⟩ rfl (by decide) rfl (by omega) (by omega) rfl (sn_bY (hA.1 t (by omega)).1) (sn_is hH (hA.1 t (by omega)).1) (fun hp31 hH31 U31 => ?_)
      refine xinc 35 (1) ⟨u51, _, rfl⟩ rfl rfl rfl (by decide) (by omega) (by omega) (fun z32 h32 => ?_)
      refine xgoto ⟨u51, _, rfl⟩ ?_
      exact ih (t + 1) _ hp31 (by omega) (by omega) (by omega) hH31 (fun c k e => (U31.2 c k (fun z => e z.1)).trans (hF c k e)) (fun k hk => by
        by_cases g : k = t - 1
        · rw [g, U31.1, show t - 1 + 1 = t by omega]
        · rw [U31.2 15 k (by omega)]
          exact h1 k (by omega)) (fun k hk1 hk2 => by
        rw [U31.2 15 k (by omega)]
        exact h2 k (by omega) hk2)
theorem k_fgo {d : Nat} {hp : amH} {R : xQ} {f : Nat → Nat} (hA : hyA hp f) (hH : bHk 84 bTT hp)
    (hR : ∀ hp1, bHk 84 bTT hp1 → hyF hp hp1 → (∀ c k, ¬ c = 15 → ¬ (c = 14 ∧ k = 0) → bFld hp1 c k = bFld hp c k) → rN hp1 14 0 = 9 → (∀ k, k < 9 → bFld hp1 15 k = some (.ref (f (k + 1)))) → bFld hp1 15 9 = some (.ref (f 0)) → R (.inl none) hp1) : xK d 51 [.ref 14] hp R := by
  refine xin (M := am_m51) rfl rfl rfl ?_
  refine xald 1 ⟨u51, _, rfl⟩ rfl rfl ?_
  refine xgetD 4 (15) hH ⟨u51, _, rfl⟩ rfl (by decide) (by decide) rfl rfl (by decide) ?_
  refine xcst 5 (0) ⟨u51, _, rfl⟩ rfl (by decide) (fun z4 h4 => ?_)
  refine xaald 6 (0) (f 0) hH ⟨u51, _, rfl⟩ rfl (by decide) rfl (by omega) (by omega) ((hA.1 0 (by decide)).2.2) ?_
  refine xast 7 ⟨u51, _, rfl⟩ rfl rfl (by simp [amOk, sn_lt (hA.1 0 (by decide)).1]) ?_
  refine xcst 8 (1) ⟨u51, _, rfl⟩ rfl (by decide) (fun z7 h7 => ?_)
  refine xist 9 ⟨u51, _, rfl⟩ rfl rfl ?_
  exact l51 hA hR 9 1 _ hp (by omega) (by omega) (by omega) hH (fun _ _ _ => rfl) (fun k hk => absurd hk (by omega)) (fun k _ hk => (hA.1 k hk).2.2)
/-- how many are kept behind a push, and which -/
def pM (n : Nat) : Nat := if n = 10 then 9 else n
def pH (n : Nat) (h : Nat → sR) (q : sR) : Nat → sR := fun k => if k = pM n then q else if n = 10 then h (k + 1) else h k
theorem hyS_fr {hp hp1 : amH} {sv : Option sR} (h : hyS hp sv) (e : rN hp1 14 3 = rN hp 14 3) (F : ∀ c, 16 ≤ c → c ≤ 18 → ∀ k, bFld hp1 c k = bFld hp c k) : hyS hp1 sv := by
  cases sv with
  | none => exact e.trans h
  | some q => exact ⟨e.trans h.1, snOk_fr h.2 F⟩
theorem k_push {d n V : Nat} {h : Nat → sR} {sv : Option sR} {T : sT} {hp : amH} {R : xQ} (hH : bHk 84 bTT hp) (hY : hyC hp n h sv) (hB : bdOk hp 3 V T) (hL : lsN hp 3 T 225)
    (hR : ∀ hp1, bHk 84 bTT hp1 → hyF hp hp1 → hyC hp1 (pM n + 1) (pH n h (V, T, rN hp 13)) sv → R (.inl none) hp1) : xK (d + 2) 50 [.ref 14, .ref 3, .ref 13] hp R := by
  obtain ⟨y1, y2, y3, ⟨f, hA, y4⟩, y5⟩ := hY
  -- behind the place made
  have key : ∀ hp2, bHk 84 bTT hp2 → hyF hp hp2 → ∀ g : Nat → Nat, hyA hp2 g → (∀ s, sn s → snF hp2 s) → rN hp2 14 0 = ((pM n : Nat) : Int) → (∀ k, k < pM n → snOk hp2 (g k) (if n = 10 then h (k + 1) else h k)) → hyS hp2 sv → xV (d + 2) am_m50 16 [some (.ref 14), some (.ref 3), some (.ref 13)] [] hp2 R := by
    intro hp2 hH hF g hA a1 a2 a3 a4
    have pm : pM n ≤ 9 := by unfold pM; split <;> omega
    have hBB : bdOk hp2 3 V T := bdOk_fr hB (hyF_n hF (by omega)) (fun i => hyF_n hF (by omega)) (fun i => hyF_n hF (by omega))
    have hLL : lsN hp2 3 T 225 := lsN_fr hL (hyF_n hF (by omega)) (fun i => hyF_n hF (by omega)) (fun i => hyF_n hF (by omega))
    have e13 : rN hp2 13 = rN hp 13 := funext fun i => hyF_n hF (by omega)
    obtain ⟨m1, m2, m3⟩ := hA.1 (pM n) (by omega)
    have mm := sn_mod m1
    refine xald 17 ⟨u50, _, rfl⟩ rfl rfl ?_
    refine xgetC 20 hH ⟨u50, _, rfl⟩ rfl (by decide) (by decide) rfl rfl (by decide) (fun z17 h17 => ?_)
    refine xald 21 ⟨u50, _, rfl⟩ rfl rfl ?_
    refine xgetD 24 (15) hH ⟨u50, _, rfl⟩ rfl (by decide) (by decide) rfl rfl (by decide) ?_
    refine xlen 25 hH ⟨u50, _, rfl⟩ rfl (by decide) rfl (by decide) (by decide) (fun z24 h24 => ?_)
    refine xcmp_ge 28 ⟨u50, _, rfl⟩ rfl (fun c25 => ?_) (fun c25 => ?_)
    · omega
    · refine xald 29 ⟨u50, _, rfl⟩ rfl rfl ?_
      refine xgetD 32 (15) hH ⟨u50, _, rfl⟩ rfl (by decide) (by decide) rfl rfl (by decide) ?_
      refine xald 33 ⟨u50, _, rfl⟩ rfl rfl ?_
      refine xgetC 36 hH ⟨u50, _, rfl⟩ rfl (by decide) (by decide) rfl rfl (by decide) (fun z33 h33 => ?_)
      refine xaald 37 (pM n) (g (pM n)) hH ⟨u50, _, rfl⟩ rfl (by decide) rfl (by omega) (by omega) (m3) ?_
      refine xnull 40 ⟨u50, _, rfl⟩ rfl ?_
      refine xald 41 ⟨u50, _, rfl⟩ rfl rfl ?_
      refine xgetD 44 (15) hH ⟨u50, _, rfl⟩ rfl (by decide) (by decide) rfl rfl (by decide) ?_
      refine xald 45 ⟨u50, _, rfl⟩ rfl rfl ?_
      refine xgetC 48 hH ⟨u50, _, rfl⟩ rfl (by decide) (by decide) rfl rfl (by decide) (fun z45 h45 => ?_)
      refine xaald 49 (pM n) (g (pM n)) hH ⟨u50, _, rfl⟩ rfl (by decide) rfl (by omega) (by omega) (m3) ?_
      refine xald 50 ⟨u50, _, rfl⟩ rfl rfl ?_
      refine xald 51 ⟨u50, _, rfl⟩ rfl rfl ?_
      refine xcallC 54 (o := g (pM n)) [.ref 3, .ref 13] [] hH ⟨u50, _, rfl⟩ rfl rfl (sn_lt m1) (sn_T m1) (by decide) rfl ⟨rfl, rfl, rfl, rfl⟩ rfl (k_keep m1 (a1 _ m1) hH hBB hLL (fun hp51 hH51 F51 f51 s51 => ⟨_, rfl, ?_⟩))
      refine xald 55 ⟨u50, _, rfl⟩ rfl rfl ?_
      refine xdup 56 ⟨u50, _, rfl⟩ rfl rfl ?_
      have e51 : rN hp51 14 0 = rN hp2 14 0 := bFx_n F51 (by simp; omega)
      refine xgetC 59 hH51 ⟨u50, _, rfl⟩ rfl (by decide) (by decide) rfl rfl (by decide) (fun z56 h56 => ?_)
      refine xcst 60 (1) ⟨u50, _, rfl⟩ rfl (by decide) (fun z59 h59 => ?_)
      refine xadd 61 _ ⟨u50, _, rfl⟩ rfl rfl (by omega) (by omega) (fun z60 h60 => ?_)
      refine xputC 64 hH51 ⟨u50, _, rfl⟩ rfl (by decide) (by decide) rfl rfl (by decide) ⟨rfl, rfl⟩ (by omega) (by omega) (fun hp61 hH61 U61 => ?_)
      have s61 := U61.1
      refine xretV ⟨u50, _, rfl⟩ rfl (hR hp61 hH61 (hF.trans ((hyF_x F51 (fun c hc => by simp at hc; omega)).trans (hyF_U U61 (by decide)))) ⟨by rw [U61.1]; omega, by omega, fun s hs => ?_, ⟨g, ⟨fun k hk => ⟨(hA.1 k hk).1, (hA.1 k hk).2.1, ?_⟩, hA.2⟩, fun k hk => ?_⟩, hyS_fr a4 ((rU_ne U61 (by omega)).trans (bFx_n F51 (by simp; omega))) (fun c c1 c2 k => (U61.2 c k (by omega)).trans (F51 c k (by simp; omega)))⟩)
      · by_cases e : s = g (pM n)
        · subst e
          exact ⟨(U61.2 _ 2 (by omega)).trans f51.1, (U61.2 _ 3 (by omega)).trans f51.2⟩
        · have := sn_mod hs
          exact ⟨(U61.2 _ 2 (by omega)).trans ((F51 _ 2 (by simp; omega)).trans (a1 s hs).1), (U61.2 _ 3 (by omega)).trans ((F51 _ 3 (by simp; omega)).trans (a1 s hs).2)⟩
      · exact (U61.2 15 k (by omega)).trans ((F51 15 k (by simp; omega)).trans (hA.1 k hk).2.2)
      · unfold pH
        by_cases e : k = pM n
        · rw [if_pos e, e]
          refine snOk_fr ?_ (fun c c1 c2 k => U61.2 c k (by omega))
          rw [← e13]
          exact s51
        · rw [if_neg e]
          have k1 := (hA.1 k (by omega)).1
          have k2 := sn_mod k1
          have k3 : ¬ g k = g (pM n) := fun z => e (hA.2 k (pM n) (by omega) (by omega) z)
          exact snOk_fr (a3 k (by omega)) (fun c c1 c2 j => (U61.2 c j (by omega)).trans (F51 c j (by simp; omega)))
  refine xin (M := am_m50) rfl rfl rfl ?_
  refine xald 1 ⟨u50, _, rfl⟩ rfl rfl ?_
  refine xgetC 4 hH ⟨u50, _, rfl⟩ rfl (by decide) (by decide) rfl rfl (by decide) (fun z1 h1 => ?_)
  refine xald 5 ⟨u50, _, rfl⟩ rfl rfl ?_
  refine xgetD 8 (15) hH ⟨u50, _, rfl⟩ rfl (by decide) (by decide) rfl rfl (by decide) ?_
  refine xlen 9 hH ⟨u50, _, rfl⟩ rfl (by decide) rfl (by decide) (by decide) (fun z8 h8 => ?_)
  refine xcmp_ne 12 ⟨u50, _, rfl⟩ rfl (fun c9 => ?_) (fun c9 => ?_)
  · have en : ¬ n = 10 := by omega
    have pm : pM n = n := by unfold pM; rw [if_neg en]
    exact key hp hH (fun _ _ _ => rfl) f hA y3 (by rw [pm]; exact y1) (fun k hk => by simp only [if_neg en]; exact y4 k (by omega)) y5
  · refine xald 13 ⟨u50, _, rfl⟩ rfl rfl ?_
    refine xcallC 16 (o := 14) [] [] hH ⟨u50, _, rfl⟩ rfl rfl (by decide) rfl (by decide) rfl ⟨rfl, rfl, rfl, rfl⟩ rfl (k_fgo hA hH (fun hp13 hH13 F13 G13 e13 A13 B13 => ⟨_, rfl, ?_⟩))
    have en : n = 10 := by omega
    have pm : pM n = 9 := by unfold pM; rw [if_pos en]
    exact key hp13 hH13 F13 (fun k => if k = 9 then f 0 else f (k + 1)) ⟨fun k hk => by
      by_cases g : k = 9
      · subst g
        simp only [if_true]
        exact ⟨(hA.1 0 (by decide)).1, (hA.1 0 (by decide)).2.1, B13⟩
      · simp only [if_neg g]
        exact ⟨(hA.1 (k + 1) (by omega)).1, (hA.1 (k + 1) (by omega)).2.1, A13 k (by omega)⟩, fun j k hj hk e => by
      by_cases g1 : j = 9
      · by_cases g2 : k = 9
        · omega
        · simp only [if_pos g1, if_neg g2] at e
          have := hA.2 0 (k + 1) (by omega) (by omega) e
          omega
      · by_cases g2 : k = 9
        · simp only [if_neg g1, if_pos g2] at e
          have := hA.2 (j + 1) 0 (by omega) (by omega) e
          omega
        · simp only [if_neg g1, if_neg g2] at e
          have := hA.2 (j + 1) (k + 1) (by omega) (by omega) e
          omega⟩ (fun s hs => by
      have := sn_mod hs
      exact ⟨(G13 s 2 (by omega) (by omega)).trans (y3 s hs).1, (G13 s 3 (by omega) (by omega)).trans (y3 s hs).2⟩) (by rw [e13, pm]; rfl) (fun k hk => by
      have k1 := sn_mod (hA.1 (k + 1) (by omega)).1
      simp only [if_pos en, if_neg (show ¬ k = 9 by omega)]
      exact snOk_fr (y4 (k + 1) (by omega)) (fun c c1 c2 j => G13 c j (by omega) (by omega))) (hyS_fr y5 (rN_eq (G13 14 3 (by decide) (by decide))) (fun c c1 c2 k => G13 c k (by omega) (by omega)))
theorem k_cmem {d n V : Nat} {h : Nat → sR} {sv : Option sR} {T : sT} {hp : amH} {R : xQ} (hH : bHk 84 bTT hp) (hY : hyC hp n h sv) (hB : bdOk hp 3 V T) (hL : lsN hp 3 T 225)
    (hR : ∀ hp1, bHk 84 bTT hp1 → hyF hp hp1 → hyC hp1 (pM n + 1) (pH n h (V, T, rN hp 13)) sv → R (.inl none) hp1) : xK (d + 3) 184 [.ref 0] hp R := by
  refine xin (M := am_m184) rfl rfl rfl ?_
  refine xald 1 ⟨u184, _, rfl⟩ rfl rfl ?_
  refine xgetD 4 (14) hH ⟨u184, _, rfl⟩ rfl (by decide) (by decide) rfl rfl (by decide) ?_
  refine xald 5 ⟨u184, _, rfl⟩ rfl rfl ?_
  refine xgetD 8 (3) hH ⟨u184, _, rfl⟩ rfl (by decide) (by decide) rfl rfl (by decide) ?_
  refine xald 9 ⟨u184, _, rfl⟩ rfl rfl ?_
  refine xgetD 12 (13) hH ⟨u184, _, rfl⟩ rfl (by decide) (by decide) rfl rfl (by decide) ?_
  refine xcallC 15 (o := 14) [.ref 3, .ref 13] [] hH ⟨u184, _, rfl⟩ rfl rfl (by decide) rfl (by decide) rfl ⟨rfl, rfl, rfl, rfl⟩ rfl (k_push hH hY hB hL (fun hp12 hH12 F12 Y12 => ⟨_, rfl, ?_⟩))
  exact xretV ⟨u184, _, rfl⟩ rfl (hR _ hH12 F12 Y12)
end
