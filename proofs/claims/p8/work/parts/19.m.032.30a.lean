/-! ===== ways by hand: rules for references and longs ===== -/
def rJ (hp : amH) (c i : Nat) : Int := match bFld hp c i with
  | some (.long x) => x.toInt
  | _ => 0
/-- the field i of the cell c holds v, all else is as it was -/
def rV (hp hp1 : amH) (c i : Nat) (v : Value) : Prop := bFld hp1 c i = some v ∧ ∀ c1 i1, ¬ (c1 = c ∧ i1 = i) → bFld hp1 c1 i1 = bFld hp c1 i1
theorem rJ_eq {hp hp1 : amH} {c i c1 i1 : Nat} (h : bFld hp1 c1 i1 = bFld hp c i) : rJ hp1 c1 i1 = rJ hp c i := by unfold rJ; rw [h]
theorem rV_ne {hp hp1 : amH} {c i : Nat} {v : Value} (h : rV hp hp1 c i v) {c1 i1 : Nat} (hn : ¬ (c1 = c ∧ i1 = i)) : rN hp1 c1 i1 = rN hp c1 i1 := rN_eq (h.2 c1 i1 hn)
theorem rV_J {hp hp1 : amH} {c i : Nat} {x : Int64} (h : rV hp hp1 c i (.long x)) : rJ hp1 c i = x.toInt := by unfold rJ; rw [h.1]
theorem rJ_ne {hp hp1 : amH} {c i : Nat} {m : Int} (h : rU hp hp1 c i m) {c1 i1 : Nat} (hn : ¬ (c1 = c ∧ i1 = i)) : rJ hp1 c1 i1 = rJ hp c1 i1 := rJ_eq (h.2 c1 i1 hn)
theorem bFld_at {hp : amH} {c f : Nat} {v : Value} (h : bFld hp c f = some v) : ∃ d, hp[c]? = some d ∧ d.2[f]? = some v := by
  unfold bFld at h
  split at h
  · next d e => exact ⟨d, e, h⟩
  · cases h
/-- a field of a cell written with what its type allows -/
theorem v_set {hp : amH} (hH : bHk 84 bTT hp) {c t n f : Nat} {ys : List bY} {y : bY} {v : Value} (hc : c < 84) (hT : bTT c = some (t, n, ys)) (hy : bDy (t, n, ys) f = some y) (hm : f < n) (hv : bYr 84 y v) : ∃ vs, hp[c]? = some (t, vs) ∧ f < vs.length ∧ vs.length = n ∧ bHk 84 bTT (hp.set c (t, vs.set f v)) ∧ rV hp (hp.set c (t, vs.set f v)) c f v := by
  obtain ⟨⟨t1, vs⟩, g1, g2, g3, g4⟩ := bHk_at hH hc hT
  have g2 : t1 = t := g2
  subst g2
  have g3 : vs.length = n := g3
  refine ⟨vs, g1, by omega, g3, bHk_set hH hT (bHc_set ⟨rfl, g3, g4⟩ hy hv), ?_, fun c1 i1 hne => ?_⟩
  · rw [bFld_set g1, if_pos rfl]
    dsimp only
    rw [List.getElem?_set_self (by omega)]
  · rw [bFld_set g1]
    split
    · next z =>
      subst z
      dsimp only
      rw [List.getElem?_set_ne (fun z => hne ⟨rfl, z.symm⟩)]
      unfold bFld
      rw [g1]
    · rfl
theorem x_row2 {hp : amH} (hH : bHk 84 bTT hp) {c n t : Nat} {ys : List bY} (hc : c < 84) (hT : bTT c = some (t, n, ys)) : ∃ vs, hp[c]? = some (t, vs) ∧ vs.length = n := by
  obtain ⟨⟨t1, vs⟩, g1, g2, g3, g4⟩ := bHk_at hH hc hT
  have g2 : t1 = t := g2
  subst g2
  exact ⟨vs, g1, g3⟩
theorem bT_J {v : Value} (h : bT 1 v) : ∃ x, v = .long x := by
  rcases h with ⟨-, x, rfl⟩ | ⟨h, -⟩ | ⟨h, -⟩ | ⟨h, -⟩ | ⟨h, -⟩
  · exact ⟨x, rfl⟩
  all_goals exact absurd h (by decide)
theorem bT_J1 {n : Nat} {x : Int64} : bYr n (.inr (.inl 1)) (.long x) := Or.inl ⟨rfl, x, rfl⟩
theorem lg_cmp_t (x y : Int64) : ((lg_cmp x y).toInt = -1 ∧ x.toInt < y.toInt) ∨ ((lg_cmp x y).toInt = 0 ∧ x.toInt = y.toInt) ∨ ((lg_cmp x y).toInt = 1 ∧ y.toInt < x.toInt) := by
  unfold lg_cmp
  have h1 : (1 : Int32).toInt = 1 := by decide
  have h0 : (0 : Int32).toInt = 0 := by decide
  have hm : (-1 : Int32).toInt = -1 := by decide
  by_cases g : x > y
  · rw [if_pos g]
    exact Or.inr (Or.inr ⟨h1, Int64.lt_iff_toInt_lt.mp g⟩)
  · rw [if_neg g]
    by_cases e : x = y
    · rw [if_pos e]
      exact Or.inr (Or.inl ⟨h0, by rw [e]⟩)
    · rw [if_neg e]
      have k1 : ¬ y.toInt < x.toInt := fun z => g (Int64.lt_iff_toInt_lt.mpr z)
      have k2 : ¬ x.toInt = y.toInt := fun z => e (Int64.toInt_inj.mp z)
      exact Or.inl ⟨hm, by omega⟩
section XJ
variable {M : amM} {pc a b d : Nat} {L : List (Option Value)} {st : List Value} {hp : amH} {Q : xQ}
theorem xgetF (q j : Nat) {c t n f : Nat} {ys : List bY} {i : _} (hH : bHk 84 bTT hp) (h : xI M pc (.getfield i) t f) (e : q = pc + 3) (hc : c < 84) (h32 : t < 32) (hT : bTT c = some (t, n, ys)) (hF : bFld hp c f = some (.ref j)) (hw : xV d M q L (.ref j :: st) hp Q) : xV d M pc L (.ref c :: st) hp Q := by
  obtain ⟨vs, g1, -⟩ := x_row2 hH hc hT
  obtain ⟨d1, k1, k2⟩ := bFld_at hF
  cases g1.symm.trans k1
  refine xstep h (fun cl hl => ⟨cl, ?_, hl⟩) hw
  subst e
  simp [amDo, amStep, amFGet, g1, k2, h32]
theorem xgetJ (q : Nat) {c t n f : Nat} {ys : List bY} {i : _} (hH : bHk 84 bTT hp) (h : xI M pc (.getfield i) t f) (e : q = pc + 3) (hc : c < 84) (h32 : t < 32) (hT : bTT c = some (t, n, ys)) (hy : bDy (t, n, ys) f = some (.inr (.inl 1))) (hm : f < n) (hw : ∀ z : Int64, z.toInt = rJ hp c f → xV d M q L (.long z :: st) hp Q) : xV d M pc L (.ref c :: st) hp Q := by
  obtain ⟨⟨t1, vs⟩, g1, g2, g3, g4⟩ := bHk_at hH hc hT
  have g2 : t1 = t := g2
  subst g2
  have g3 : vs.length = n := g3
  have hv : f < vs.length := by omega
  obtain ⟨y, k1, k2⟩ := g4 f vs[f] (List.getElem?_eq_getElem hv)
  rw [hy] at k1
  cases k1
  obtain ⟨x, ex⟩ := bT_J k2
  refine xstep h (fun cl hl => ⟨cl, ?_, hl⟩) (hw x ?_)
  · subst e
    simp [amDo, amStep, amFGet, g1, h32, List.getElem?_eq_getElem hv, ex]
  · unfold rJ bFld
    rw [g1]
    dsimp only
    rw [List.getElem?_eq_getElem hv, ex]
theorem xputJ (q : Nat) {c t n f : Nat} {ys : List bY} {i : _} {x : Int64} (hH : bHk 84 bTT hp) (h : xI M pc (.putfield i) t f) (e : q = pc + 3) (hc : c < 84) (h32 : t < 32) (hT : bTT c = some (t, n, ys)) (hy : bDy (t, n, ys) f = some (.inr (.inl 1))) (hm : f < n) (hn : narrow (amFty t f) (.long x) = .long x ∧ fits (amFty t f) (.long x) = true)
    (hw : ∀ hp1, bHk 84 bTT hp1 → rV hp hp1 c f (.long x) → xV d M q L st hp1 Q) : xV d M pc L (.long x :: .ref c :: st) hp Q := by
  obtain ⟨vs, g1, g2, g3, k1, k2⟩ := v_set hH (v := .long x) hc hT hy hm bT_J1
  refine xstep h (fun cl hl => ⟨cl, ?_, hl⟩) (hw _ k1 k2)
  subst e
  simp [amDo, amStep, amFSet, g1, g2, hn.1, hn.2, h32]
theorem xaald (q n j : Nat) {c len : Nat} {ys : List bY} {x : Int32} (hH : bHk 84 bTT hp) (h : xI M pc .aaload a b) (e : q = pc + 1) (hc : c < 84) (hT : bTT c = some (35, len, ys)) (hn : x.toInt = (n : Int)) (hl : n < len) (hF : bFld hp c n = some (.ref j)) (hw : xV d M q L (.ref j :: st) hp Q) : xV d M pc L (.int x :: .ref c :: st) hp Q := by
  obtain ⟨vs, g1, g3⟩ := x_row2 hH hc hT
  obtain ⟨d1, k1, k2⟩ := bFld_at hF
  cases g1.symm.trans k1
  have k2 : vs[n]? = some (.ref j) := k2
  refine xstep h (fun cl hl => ⟨cl, ?_, hl⟩) hw
  obtain ⟨e1, e2⟩ := rw_in (m := vs.length) hn (by omega)
  subst e
  simp [amDo, amStep, amALd, g1, e1, e2, amIsA, k2]
theorem xaast (q n j : Nat) {c len : Nat} {ys : List bY} {y : bY} {x : Int32} (hH : bHk 84 bTT hp) (h : xI M pc .aastore a b) (e : q = pc + 1) (hc : c < 84) (hT : bTT c = some (35, len, ys)) (hn : x.toInt = (n : Int)) (hl : n < len) (hy : bDy (35, len, ys) n = some y) (hv : bYr 84 y (.ref j)) (hj : amIsSn hp (.ref j) = true)
    (hw : ∀ hp1, bHk 84 bTT hp1 → rV hp hp1 c n (.ref j) → xV d M q L st hp1 Q) : xV d M pc L (.ref j :: .int x :: .ref c :: st) hp Q := by
  obtain ⟨vs, g1, g2, g3, k1, k2⟩ := v_set hH (v := .ref j) hc hT hy hl hv
  refine xstep h (fun cl hl => ⟨cl, ?_, hl⟩) (hw _ k1 k2)
  obtain ⟨e1, e2⟩ := rw_in (m := vs.length) hn (by omega)
  subst e
  simp only [amDo, amStep, amASt, g1, e1, e2, hj, and_self, if_true, Option.map_some, id]
theorem xlald (q n : Nat) {c len : Nat} {x : Int32} (hH : bHk 84 bTT hp) (h : xI M pc .laload a b) (e : q = pc + 1) (hc : c < 84) (hT : bTT c = some (33, len, [.inr (.inl 1)])) (hn : x.toInt = (n : Int)) (hl : n < len) (hw : ∀ z : Int64, z.toInt = rJ hp c n → xV d M q L (.long z :: st) hp Q) : xV d M pc L (.int x :: .ref c :: st) hp Q := by
  obtain ⟨⟨t1, vs⟩, g1, g2, g3, g4⟩ := bHk_at hH hc hT
  have g2 : t1 = 33 := g2
  subst g2
  have g3 : vs.length = len := g3
  have hl2 : n < vs.length := by omega
  obtain ⟨y, k1, k2⟩ := g4 n vs[n] (List.getElem?_eq_getElem hl2)
  rw [show bDy (33, len, [.inr (.inl 1)]) n = some (.inr (.inl 1)) from rfl] at k1
  cases k1
  obtain ⟨w, ex⟩ := bT_J k2
  obtain ⟨e1, e2⟩ := rw_in (m := vs.length) hn hl2
  refine xstep h (fun cl hl => ⟨cl, ?_, hl⟩) (hw w ?_)
  · subst e
    simp [amDo, amStep, amALd, g1, e1, e2, amIsJ, List.getElem?_eq_getElem hl2, ex]
  · unfold rJ bFld
    rw [g1]
    dsimp only
    rw [List.getElem?_eq_getElem hl2, ex]
theorem xlast (q n : Nat) {c len : Nat} {x : Int32} {v : Int64} (hH : bHk 84 bTT hp) (h : xI M pc .lastore a b) (e : q = pc + 1) (hc : c < 84) (hT : bTT c = some (33, len, [.inr (.inl 1)])) (hn : x.toInt = (n : Int)) (hl : n < len)
    (hw : ∀ hp1, bHk 84 bTT hp1 → rV hp hp1 c n (.long v) → xV d M q L st hp1 Q) : xV d M pc L (.long v :: .int x :: .ref c :: st) hp Q := by
  obtain ⟨vs, g1, g2, g3, k1, k2⟩ := v_set hH (v := .long v) (y := .inr (.inl 1)) hc hT rfl hl bT_J1
  refine xstep h (fun cl hl => ⟨cl, ?_, hl⟩) (hw _ k1 k2)
  obtain ⟨e1, e2⟩ := rw_in (m := vs.length) hn (by omega)
  subst e
  simp only [amDo, amStep, amASt, g1, e1, e2, amIsJ, and_self, if_true, Option.map_some, id]
theorem xlldG (q : Nat) {i : Instr} {k : Nat} {x : Int64} (h : xI M pc i a b) (hi : (i = .lload k ∧ q = pc + 2) ∨ (∃ n : Fin 4, i = .lload_n n ∧ n = k ∧ q = pc + 1)) (l : lAt L k = some (some (.long x))) (hw : xV d M q L (.long x :: st) hp Q) : xV d M pc L st hp Q := by
  refine xstep h (fun cl hl => ⟨cl, ?_, hl⟩) hw
  have hg := (hl.2 k _ l).2
  rcases hi with ⟨rfl, rfl⟩ | ⟨n, rfl, rfl, rfl⟩
  · simp [amDo, amStep, amLd, hg, amIsJ]
  · simp [amDo, amStep, amLd, hg, amIsJ]
theorem xlld (q : Nat) {n : Fin 4} {x : Int64} (h : xI M pc (.lload_n n) a b) (e : q = pc + 1) (l : lAt L (n : Nat) = some (some (.long x))) (hw : xV d M q L (.long x :: st) hp Q) : xV d M pc L st hp Q :=
  xlldG q h (Or.inr ⟨n, rfl, rfl, e⟩) l hw
theorem xlstG (q : Nat) {i : Instr} {k : Nat} {x : Int64} (h : xI M pc i a b) (hi : (i = .lstore k ∧ q = pc + 2) ∨ (∃ n : Fin 4, i = .lstore_n n ∧ n = k ∧ q = pc + 1)) (hk : Nat.ble (k + 2) M.2.1 = true) (hw : xV d M q (qSet2 L k (.long x)) st hp Q) : xV d M pc L (.long x :: st) hp Q := by
  refine xstep h (fun cl hl => ⟨amSet2 cl k (.long x), ?_, lq_set2 hl k rfl⟩) hw
  have hk : k + 1 < M.2.1 := Nat.le_of_ble_eq_true hk
  rcases hi with ⟨rfl, rfl⟩ | ⟨n, rfl, rfl, rfl⟩
  · simp [amDo, amStep, amSt2, amIsJ, hk]
  · simp [amDo, amStep, amSt2, amIsJ, hk]
theorem xlst (q : Nat) {n : Fin 4} {x : Int64} (h : xI M pc (.lstore_n n) a b) (e : q = pc + 1) (hk : Nat.ble ((n : Nat) + 2) M.2.1 = true) (hw : xV d M q (qSet2 L (n : Nat) (.long x)) st hp Q) : xV d M pc L (.long x :: st) hp Q :=
  xlstG q h (Or.inr ⟨n, rfl, rfl, e⟩) hk hw
/-- a reference stored in a local -/
theorem xast (q : Nat) {n : Fin 4} {x : Nat} (h : xI M pc (.astore_n n) a b) (e : q = pc + 1) (hk : Nat.ble ((n : Nat) + 1) M.2.1 = true) (hx : amOk 84 (.ref x) = true) (hw : xV d M q (qSet L (n : Nat) (.ref x)) st hp Q) : xV d M pc L (.ref x :: st) hp Q := by
  refine xstep h (fun cl hl => ⟨amSet1 cl n (.ref x), ?_, lq_setV hl _ hx⟩) hw
  have hk : (n : Nat) < M.2.1 := Nat.le_of_ble_eq_true hk
  subst e
  simp [amDo, amStep, amSt1, isA_ref, hk]
theorem xnull (q : Nat) {i : Int} {x : Nat} (h : xI M pc (.ifnull i) a b) (e : q = pc + 3) (hw : xV d M q L st hp Q) : xV d M pc L (.ref x :: st) hp Q := by
  refine xstep h (fun cl hl => ⟨cl, ?_, hl⟩) hw
  subst e
  simp [amDo, amStep]
theorem xnonnull {i : Int} {x : Nat} (h : xI M pc (.ifnonnull i) a b) (hw : xV d M a L st hp Q) : xV d M pc L (.ref x :: st) hp Q := by
  refine xstep h (fun cl hl => ⟨cl, ?_, hl⟩) hw
  simp [amDo, amStep]
theorem xlcst (q : Nat) (m : Int) {n : Fin 2} (h : xI M pc (.lconst n) a b) (e : q = pc + 1) (hm : (Int64.ofNat (n : Nat)).toInt = m) (hw : ∀ z : Int64, z.toInt = m → xV d M q L (.long z :: st) hp Q) : xV d M pc L st hp Q := by
  refine xstep h (fun cl hl => ⟨cl, ?_, hl⟩) (hw _ hm)
  subst e
  simp [amDo, amStep]
theorem xldc2 (q : Nat) (m : Int) {i : _} (h : xI M pc (.ldc2_w i) a b) (e : q = pc + 3) (hm : (Int64.ofNat a).toInt = m) (hw : ∀ z : Int64, z.toInt = m → xV d M q L (.long z :: st) hp Q) : xV d M pc L st hp Q := by
  refine xstep h (fun cl hl => ⟨cl, ?_, hl⟩) (hw _ hm)
  subst e
  simp [amDo, amStep]
theorem xl2i (q : Nat) {x : Int64} (h : xI M pc .l2i a b) (e : q = pc + 1) (hw : xV d M q L (.int x.toInt32 :: st) hp Q) : xV d M pc L (.long x :: st) hp Q := by
  refine xstep h (fun cl hl => ⟨cl, ?_, hl⟩) hw
  subst e
  simp [amDo, amStep, amJ]
theorem xlneg (q : Nat) {x : Int64} (h : xI M pc .lneg a b) (e : q = pc + 1) (hw : xV d M q L (.long (-x) :: st) hp Q) : xV d M pc L (.long x :: st) hp Q := by
  refine xstep h (fun cl hl => ⟨cl, ?_, hl⟩) hw
  subst e
  simp [amDo, amStep, amJ]
theorem xladd (q : Nat) {x y : Int64} (h : xI M pc .ladd a b) (e : q = pc + 1) (hw : xV d M q L (.long (x + y) :: st) hp Q) : xV d M pc L (.long y :: .long x :: st) hp Q := by
  refine xstep h (fun cl hl => ⟨cl, ?_, hl⟩) hw
  subst e
  simp [amDo, amStep, amLL]
theorem xlsub (q : Nat) {x y : Int64} (h : xI M pc .lsub a b) (e : q = pc + 1) (hw : xV d M q L (.long (x - y) :: st) hp Q) : xV d M pc L (.long y :: .long x :: st) hp Q := by
  refine xstep h (fun cl hl => ⟨cl, ?_, hl⟩) hw
  subst e
  simp [amDo, amStep, amLL]
theorem xland (q : Nat) {x y : Int64} (h : xI M pc .land a b) (e : q = pc + 1) (hw : xV d M q L (.long (x &&& y) :: st) hp Q) : xV d M pc L (.long y :: .long x :: st) hp Q := by
  refine xstep h (fun cl hl => ⟨cl, ?_, hl⟩) hw
  subst e
  simp [amDo, amStep, amLL]
theorem xlor (q : Nat) {x y : Int64} (h : xI M pc .lor a b) (e : q = pc + 1) (hw : xV d M q L (.long (x ||| y) :: st) hp Q) : xV d M pc L (.long y :: .long x :: st) hp Q := by
  refine xstep h (fun cl hl => ⟨cl, ?_, hl⟩) hw
  subst e
  simp [amDo, amStep, amLL]
theorem xlcmp (q : Nat) {x y : Int64} (h : xI M pc .lcmp a b) (e : q = pc + 1) (hw : ∀ z : Int32, ((z.toInt = -1 ∧ x.toInt < y.toInt) ∨ (z.toInt = 0 ∧ x.toInt = y.toInt) ∨ (z.toInt = 1 ∧ y.toInt < x.toInt)) → xV d M q L (.int z :: st) hp Q) : xV d M pc L (.long y :: .long x :: st) hp Q := by
  refine xstep h (fun cl hl => ⟨cl, ?_, hl⟩) (hw (lg_cmp x y) (lg_cmp_t x y))
  subst e
  simp [amDo, amStep, amLL]
theorem xlshl (q : Nat) {x : Int64} {y : Int32} (h : xI M pc .lshl a b) (e : q = pc + 1) (hw : xV d M q L (.long (x <<< (y.toInt64 &&& 63)) :: st) hp Q) : xV d M pc L (.int y :: .long x :: st) hp Q := by
  refine xstep h (fun cl hl => ⟨cl, ?_, hl⟩) hw
  subst e
  simp [amDo, amStep, amLI]
theorem xretJ {x : Int64} (h : xI M pc .lreturn a b) (hr : M.2.2.2.2.1 = some .long) (hQ : Q (.inl (some (.long x))) hp) : xV d M pc L [.long x] hp Q := by
  intro cl hl
  obtain ⟨hu, r, hr2⟩ := h
  rw [hr2]
  refine bWp_ret (q := (pc, .lreturn, a, b)) ?_ hQ
  simp [amDo, amRetV, hr, narrow]
end XJ
/-- arguments with their places: a long takes two -/
def qArgs : List Value → List (Option Value)
  | [] => []
  | v :: r => bif isJ (some v) then some v :: none :: qArgs r else some v :: qArgs r
def qAv (av : List Value) : Bool := av.all (fun v => amOk 84 v)
theorem qAv_ok : ∀ (av : List Value) (i : Nat), qAv av = true → amOkL 84 (lv_args i av) = true
  | [], i, _ => rfl
  | u :: r, i, h => by
    unfold qAv at h
    rw [List.all_cons] at h
    simp only [Bool.and_eq_true] at h
    unfold lv_args amOkL
    rw [List.all_cons]
    exact Bool.and_eq_true_iff.mpr ⟨h.1, qAv_ok r _ h.2⟩
theorem qAv_get : ∀ (av : List Value) (i : Nat), ∀ k v, lAt (qArgs av) k = some (some v) → amGet (lv_args i av) (i + k) = some v
  | [], i, k, v, e => by cases e
  | u :: r, i, k, v, e => by
    unfold qArgs at e
    unfold lv_args amGet
    dsimp only
    cases hj : isJ (some u) with
    | true =>
      rw [hj] at e
      have hc : u.category = 2 := by cases u <;> first | rfl | cases hj
      match k, e with
      | 0, e => cases e; rw [if_pos (by omega)]
      | 1, e => cases e
      | k + 2, e =>
        rw [if_neg (by omega), hc, show i + (k + 2) = i + 2 + k by omega]
        exact qAv_get r (i + 2) k v e
    | false =>
      rw [hj] at e
      have hc := isJ_cat hj
      match k, e with
      | 0, e => cases e; rw [if_pos (by omega)]
      | k + 1, e =>
        rw [if_neg (by omega), hc, show i + (k + 1) = i + 1 + k by omega]
        exact qAv_get r (i + 1) k v e
theorem xinJ {d k : Nat} {M : amM} {av : List Value} {hp : amH} {R : xQ} (hM : amGG k = some M) (h0 : amSeek M.1 0 = M.1) (ha : qAv av = true) (hw : xV d M 0 (qArgs av) [] hp R) : xK d k av hp R := by
  refine ⟨M, hM, ?_⟩
  have := hw (lv_args 0 av) ⟨qAv_ok av 0 ha, fun k v e => by
    have g2 := qAv_get av 0 k v e
    rw [Nat.zero_add] at g2
    exact ⟨trivial, g2⟩⟩
  rw [h0] at this
  exact this
