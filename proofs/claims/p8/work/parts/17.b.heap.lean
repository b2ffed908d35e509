/-! ===== ways by hand: fields, rows, calls ===== -/
def rU (hp hp1 : amH) (c i : Nat) (m : Int) : Prop := rN hp1 c i = m ∧ ∀ c1 i1, ¬ (c1 = c ∧ i1 = i) → bFld hp1 c1 i1 = bFld hp c1 i1
theorem rU_fr {hp hp1 : amH} {c i : Nat} {m : Int} (h : rU hp hp1 c i m) {W : List (Nat × Nat)} (hW : bIn W c i = true) : bFr W hp hp1 := fun c1 k hk => h.2 c1 k (fun z => by rw [z.1, z.2, hW] at hk; cases hk)
theorem rU_ne {hp hp1 : amH} {c i : Nat} {m : Int} (h : rU hp hp1 c i m) {c1 i1 : Nat} (hn : ¬ (c1 = c ∧ i1 = i)) : rN hp1 c1 i1 = rN hp c1 i1 := rN_eq (h.2 c1 i1 hn)
def fR (f : Nat) : Option Nat := match bTT 66 with
  | some D => (match bDy D f with
    | some (.inr (.inr [j])) => some j
    | _ => none)
  | none => none
def fB (f : Nat) : Option (Nat × Nat) := match bTT 66 with
  | some D => (match bDy D f with
    | some (.inl q) => some q
    | _ => none)
  | none => none
def fD66 : bD := (11, 33, bR66)
theorem fD66_eq : bTT 66 = some fD66 := rfl
theorem x66 {hp : amH} (hH : bHk 84 bTT hp) : ∃ vs, hp[66]? = some (11, vs) ∧ vs.length = 33 ∧ ∀ f w, vs[f]? = some w → ∃ y, bDy fD66 f = some y ∧ bYr 84 y w := by
  obtain ⟨⟨t, vs⟩, g1, g2, g3, g4⟩ := bHk_at hH (i := 66) (by decide) fD66_eq
  have ht : t = 11 := g2
  subst ht
  exact ⟨vs, g1, g3, g4⟩
theorem x66R {hp : amH} (hH : bHk 84 bTT hp) {f j : Nat} (hf : fR f = some j) : ∃ vs, hp[66]? = some (11, vs) ∧ vs[f]? = some (.ref j) := by
  obtain ⟨vs, h1, h2, h3⟩ := x66 hH
  have hd : bDy fD66 f = some (.inr (.inr [j])) := by
    unfold fR at hf
    rw [fD66_eq] at hf
    dsimp only at hf
    split at hf
    · next e => cases hf; exact e
    · cases hf
  have hlt : f < 33 := by
    rcases Nat.lt_or_ge f 33 with z | z
    · exact z
    · have : bDy fD66 f = none := by
        show lAt bR66 f = none
        rw [lAt_eq]
        exact List.getElem?_eq_none (by have : bR66.length = 33 := rfl; omega)
      rw [this] at hd
      cases hd
  refine ⟨vs, h1, ?_⟩
  have hlt2 : f < vs.length := by omega
  obtain ⟨y, k1, k2⟩ := h3 f vs[f] (List.getElem?_eq_getElem hlt2)
  rw [hd] at k1
  cases k1
  obtain ⟨u, e1, -, e3⟩ := k2
  have hu : u = j := by simpa using e3
  rw [List.getElem?_eq_getElem hlt2, e1, hu]
theorem x66I {hp : amH} (hH : bHk 84 bTT hp) {f lo hi : Nat} (hf : fB f = some (lo, hi)) : ∃ vs, hp[66]? = some (11, vs) ∧ f < vs.length ∧ bDy fD66 f = some (.inl (lo, hi)) ∧ f < 33 ∧ ∃ x, vs[f]? = some (.int x) ∧ x.toInt = rN hp 66 f ∧ lo ≤ aOff x ∧ aOff x ≤ hi := by
  obtain ⟨vs, h1, h2, h3⟩ := x66 hH
  have hd : bDy fD66 f = some (.inl (lo, hi)) := by
    unfold fB at hf
    rw [fD66_eq] at hf
    dsimp only at hf
    split at hf
    · next e => cases hf; exact e
    · cases hf
  have hlt : f < 33 := by
    rcases Nat.lt_or_ge f 33 with z | z
    · exact z
    · have : bDy fD66 f = none := by
        show lAt bR66 f = none
        rw [lAt_eq]
        exact List.getElem?_eq_none (by have : bR66.length = 33 := rfl; omega)
      rw [this] at hd
      cases hd
  have hlt2 : f < vs.length := by omega
  obtain ⟨y, k1, k2⟩ := h3 f vs[f] (List.getElem?_eq_getElem hlt2)
  rw [hd] at k1
  cases k1
  obtain ⟨x, e1, x1, x2⟩ := k2
  refine ⟨vs, h1, hlt2, hd, hlt, x, by rw [List.getElem?_eq_getElem hlt2, e1], ?_, x1, x2⟩
  unfold rN bFld
  rw [h1]
  dsimp only
  rw [List.getElem?_eq_getElem hlt2, e1]
theorem rb_fld {hp : amH} (hH : bHk 84 bTT hp) {f lo hi : Nat} (hf : fB f = some (lo, hi)) : (lo : Int) - 2147483648 ≤ rN hp 66 f ∧ rN hp 66 f ≤ (hi : Int) - 2147483648 := by
  obtain ⟨vs, -, -, -, -, x, -, h2, h3, h4⟩ := x66I hH hf
  have := aOff_eq x
  omega
theorem x_row {hp : amH} (hH : bHk 84 bTT hp) {q len lo hi : Nat} (hq : q < 84) (hT : bTT q = some (32, len, [.inl (lo, hi)])) : ∃ w : List Int32, hp[q]? = some (32, w.map Value.int) ∧ w.length = len ∧ ∀ i, i < len → rN hp q i = (w.getD i 0).toInt ∧ lo ≤ aOff (w.getD i 0) ∧ aOff (w.getD i 0) ≤ hi := by
  obtain ⟨c, h1, h2⟩ := bHk_at hH hq hT
  have h3 := h2
  obtain ⟨w, rfl, hw⟩ := r_ints h2
  refine ⟨w, h1, hw, fun i hi => ⟨?_, ?_⟩⟩
  · unfold rN bFld
    rw [h1]
    dsimp only
    rw [List.getElem?_map, List.getElem?_eq_getElem (by omega), List.getD_eq_getElem?_getD, List.getElem?_eq_getElem (by omega)]
    rfl
  · obtain ⟨y, g1, g2⟩ := h3.2.2 i (.int w[i]) (by dsimp only; rw [List.getElem?_map, List.getElem?_eq_getElem (by omega)]; rfl)
    cases g1
    obtain ⟨x, e, x1, x2⟩ := g2
    cases e
    rw [List.getD_eq_getElem?_getD, List.getElem?_eq_getElem (by omega)]
    exact ⟨x1, x2⟩
theorem rb_row {hp : amH} (hH : bHk 84 bTT hp) {q len lo hi i : Nat} (hq : q < 84) (hT : bTT q = some (32, len, [.inl (lo, hi)])) (hil : i < len) : (lo : Int) - 2147483648 ≤ rN hp q i ∧ rN hp q i ≤ (hi : Int) - 2147483648 := by
  obtain ⟨w, -, -, h⟩ := x_row hH hq hT
  obtain ⟨h1, h2, h3⟩ := h i hil
  have := aOff_eq (w.getD i 0)
  omega
section XH
variable {M : amM} {pc a b d : Nat} {L : List (Option Value)} {st : List Value} {hp : amH} {Q : xQ}
theorem xgetR (q j : Nat) {f : Nat} {i : _} (hH : bHk 84 bTT hp) (h : xI M pc (.getfield i) 11 f) (e : q = pc + 3) (hf : fR f = some j) (hw : xV d M q L (.ref j :: st) hp Q) : xV d M pc L (.ref 66 :: st) hp Q := by
  obtain ⟨vs, h1, h2⟩ := x66R hH hf
  refine xstep h (fun cl hl => ⟨cl, ?_, hl⟩) hw
  subst e
  simp [amDo, amStep, amFGet, h1, h2]
theorem xgetI (q : Nat) {f lo hi : Nat} {i : _} (hH : bHk 84 bTT hp) (h : xI M pc (.getfield i) 11 f) (e : q = pc + 3) (hf : fB f = some (lo, hi)) (hw : ∀ z : Int32, z.toInt = rN hp 66 f → xV d M q L (.int z :: st) hp Q) : xV d M pc L (.ref 66 :: st) hp Q := by
  obtain ⟨vs, h1, -, -, -, x, h2, h3, -⟩ := x66I hH hf
  refine xstep h (fun cl hl => ⟨cl, ?_, hl⟩) (hw x h3)
  subst e
  simp [amDo, amStep, amFGet, h1, h2]
theorem xputI (q : Nat) {f lo hi : Nat} {i : _} {x : Int32} (hH : bHk 84 bTT hp) (h : xI M pc (.putfield i) 11 f) (e : q = pc + 3) (hf : fB f = some (lo, hi)) (hn : narrow (amFty 11 f) (.int x) = .int x ∧ fits (amFty 11 f) (.int x) = true) (h1 : (lo : Int) - 2147483648 ≤ x.toInt) (h2 : x.toInt ≤ (hi : Int) - 2147483648)
    (hw : ∀ hp1, bHk 84 bTT hp1 → rU hp hp1 66 f x.toInt → xV d M q L st hp1 Q) : xV d M pc L (.int x :: .ref 66 :: st) hp Q := by
  obtain ⟨vs, g1, g2, g3, g4, -⟩ := x66I hH hf
  have ho := aOff_eq x
  obtain ⟨k1, k2, k3, k4⟩ := r_st hH (v := x) (m := f) (lo := lo) (hi := hi) (by decide) fD66_eq g1 g3 (by omega) (by omega) g4
  refine xstep h (fun cl hl => ⟨cl, ?_, hl⟩) (hw (hp.set 66 (11, vs.set f (.int x))) k1 ⟨k3, fun c1 i1 hn => ?_⟩)
  · subst e
    simp [amDo, amStep, amFSet, g1, g2, hn.1, hn.2]
  · refine k4 [(66, f)] (by simp [bIn]) c1 i1 ?_
    cases hb : bIn [(66, f)] c1 i1
    · rfl
    · simp only [bIn] at hb
      split at hb
      · next e1 =>
        have e1 := Nat.eq_of_beq_eq_true e1
        split at hb
        · next e2 => exact absurd ⟨e1.symm, (Nat.eq_of_beq_eq_true e2).symm⟩ hn
        · split at hb
          · next e3 => have := Nat.eq_of_beq_eq_true e3; omega
          · cases hb
      · cases hb
theorem xiald (q n : Nat) {c len lo hi : Nat} {x : Int32} (hH : bHk 84 bTT hp) (h : xI M pc .iaload a b) (e : q = pc + 1) (hq : c < 84) (hT : bTT c = some (32, len, [.inl (lo, hi)])) (hn : x.toInt = (n : Int)) (hl : n < len) (hw : ∀ z : Int32, z.toInt = rN hp c n → xV d M q L (.int z :: st) hp Q) : xV d M pc L (.int x :: .ref c :: st) hp Q := by
  obtain ⟨w, h1, h2, h3⟩ := x_row hH hq hT
  refine xstep h (fun cl hl => ⟨cl, ?_, hl⟩) (hw (w.getD n 0) (h3 n hl).1.symm)
  have hr := rw_rd (r := st) h1 hn (by omega)
  subst e
  simp [amDo, amStep, amSc, hr]
theorem xiast (q n : Nat) {c len lo hi : Nat} {x v : Int32} (hH : bHk 84 bTT hp) (h : xI M pc .iastore a b) (e : q = pc + 1) (hq : c < 84) (hT : bTT c = some (32, len, [.inl (lo, hi)])) (hn : x.toInt = (n : Int)) (hl : n < len) (h1 : (lo : Int) - 2147483648 ≤ v.toInt) (h2 : v.toInt ≤ (hi : Int) - 2147483648)
    (hw : ∀ hp1, bHk 84 bTT hp1 → rU hp hp1 c n v.toInt → xV d M q L st hp1 Q) : xV d M pc L (.int v :: .int x :: .ref c :: st) hp Q := by
  obtain ⟨w, g1, g2, g3⟩ := x_row hH hq hT
  have ho := aOff_eq v
  have hlen : (w.map Value.int).length = len := by rw [List.length_map]; exact g2
  have hy : bDy (32, len, [.inl (lo, hi)]) n = some (.inl (lo, hi)) := rfl
  have hset : (w.map Value.int).set n (.int v) = (w.set n v).map Value.int := by rw [List.map_set]
  obtain ⟨c0, q1, q2⟩ := bHk_at hH hq hT
  cases q1.symm.trans g1
  have k1 : bHk 84 bTT (hp.set c (32, (w.map Value.int).set n (.int v))) := bHk_set hH hT (bHc_set q2 hy ⟨v, rfl, by omega, by omega⟩)
  refine xstep h (fun cl hl => ⟨cl, ?_, hl⟩) (hw (hp.set c (32, (w.map Value.int).set n (.int v))) k1 ⟨?_, fun c1 i1 hne => ?_⟩)
  · have hr := rv_wr (r := st) (v := v) g1 hn (by omega)
    subst e
    simp only [amDo, amStep, hr, Option.map_some]
  · unfold rN
    rw [bFld_set g1, if_pos rfl]
    dsimp only
    rw [List.getElem?_set_self (by omega)]
  · rw [bFld_set g1]
    split
    · next z =>
      subst z
      dsimp only
      rw [List.getElem?_set_ne (fun z => hne ⟨rfl, z.symm⟩)]
      unfold bFld
      rw [g1]
    · rfl
theorem xret {x : Int32} (h : xI M pc .ireturn a b) (hr : M.2.2.2.2.1 = some .int) (hQ : Q (.inl (some (.int x))) hp) : xV d M pc L [.int x] hp Q := by
  intro cl hl
  obtain ⟨hu, r, hr2⟩ := h
  rw [hr2]
  refine bWp_ret (q := (pc, .ireturn, a, b)) ?_ hQ
  simp [amDo, amRetV, hr, narrow]
theorem xretB {x : Int32} (h : xI M pc .ireturn a b) (hr : M.2.2.2.2.1 = some .boolean) (hx : x.toInt = 0 ∨ x.toInt = 1) (hQ : Q (.inl (some (.int x))) hp) : xV d M pc L [.int x] hp Q := by
  intro cl hl
  obtain ⟨hu, r, hr2⟩ := h
  rw [hr2]
  refine bWp_ret (q := (pc, .ireturn, a, b)) ?_ hQ
  have hx : x = 0 ∨ x = 1 := hx.imp (fun z => x_eq.mpr z) (fun z => x_eq.mpr z)
  rcases hx with rfl | rfl <;> simp [amDo, amRetV, hr, narrow] <;> decide
theorem xretV (h : xI M pc .return_ a b) (hr : M.2.2.2.2.1 = none) (hQ : Q (.inl none) hp) : xV d M pc L [] hp Q := by
  intro cl hl
  obtain ⟨hu, r, hr2⟩ := h
  rw [hr2]
  refine bWp_ret (q := (pc, .return_, a, b)) ?_ hQ
  simp [amDo, amRetV, hr]
end XH
/-- what a call comes to -/
def xK (d k : Nat) (av : List Value) (hp : amH) (R : xQ) : Prop := ∃ N, amGG k = some N ∧ bWp amGG d N N.1 0 (lv_args 0 av) [] hp R
theorem xK_mono {d k : Nat} {av : List Value} {hp : amH} {R R1 : xQ} (h : xK d k av hp R) (hR : ∀ y hp1, R y hp1 → R1 y hp1) : xK d k av hp R1 := by
  obtain ⟨N, h1, h2⟩ := h
  exact ⟨N, h1, bWp_mono h2 hR⟩
theorem xK_deep {d e k : Nat} {av : List Value} {hp : amH} {R : xQ} (h : xK d k av hp R) (hd : d ≤ e) : xK e k av hp R := by
  obtain ⟨N, h1, h2⟩ := h
  exact ⟨N, h1, bWp_deep h2 hd⟩
def xcOk (kd k : Nat) (av rest : List Value) : Bool := match amGG k with
  | some N => Nat.beq N.2.2.1 av.length && (Nat.ble ((av.reverse.map fun v => v.category).sum) N.2.1 && (Nat.beq N.2.2.2.2.2.2 11 || Nat.beq kd 1)) && Nat.ble ((rest.map fun v => v.category).sum) 8
  | none => false
def xcRf (kd : Nat) (av : List Value) : Bool := match av with
  | .ref o :: _ => Nat.beq o 66 || Nat.beq kd 1
  | _ => Nat.beq kd 1
section XC
variable {M : amM} {pc b d : Nat} {L : List (Option Value)} {hp : amH} {Q : xQ}
theorem xcallG (q : Nat) {k kd : Nat} {i : Instr} {av rest st : List Value} (hH : bHk 84 bTT hp) (h : xI M pc i k b) (hi : (∃ j, i = .invokevirtual j ∧ kd = 0 ∧ ¬ b = 7 ∧ ¬ b = 8) ∨ (∃ j, i = .invokestatic j ∧ kd = 1 ∧ ¬ b = 6)) (e : q = pc + 3) (hst : st = av.reverse ++ rest) (hc : xcOk kd k av rest = true) (hr : amOkS 84 rest = true) (hv : xcRf kd av = true)
    (hk : xK d k av hp (fun y hp1 => ∃ v, y = .inl v ∧ xV (d + 1) M q L (v.toList ++ rest) hp1 Q)) : xV (d + 1) M pc L st hp Q := by
  intro cl hl
  obtain ⟨hu, r, hr2⟩ := h
  obtain ⟨N, hN, hw⟩ := hk
  rw [hr2]
  unfold xcOk at hc
  rw [hN] at hc
  simp only [Bool.and_eq_true, Bool.or_eq_true] at hc
  obtain ⟨⟨c1, c2, c3⟩, c4⟩ := hc
  have c1 := Nat.eq_of_beq_eq_true c1
  have c2 := Nat.le_of_ble_eq_true c2
  have c4 := Nat.le_of_ble_eq_true c4
  have hlen : av.reverse.length = N.2.2.1 := by rw [List.length_reverse, c1]
  have t1 : st.take N.2.2.1 = av.reverse := by rw [hst, ← hlen, List.take_left]
  have t2 : st.drop N.2.2.1 = rest := by rw [hst, ← hlen, List.drop_left]
  have hrec : amRecv kd N.2.2.2.2.2.2 hp av = true := by
    have go : kd = 1 ∨ (kd = 0 ∧ N.2.2.2.2.2.2 = 11) := by
      rcases hi with ⟨j, -, z, -⟩ | ⟨j, -, z, -⟩
      · rcases c3 with u | u
        · exact Or.inr ⟨z, Nat.eq_of_beq_eq_true u⟩
        · exact Or.inl (Nat.eq_of_beq_eq_true u)
      · exact Or.inl z
    cases av with
    | nil => exact decide_eq_true (Nat.eq_of_beq_eq_true hv)
    | cons v l =>
      cases v
      case ref o =>
        unfold xcRf at hv
        simp only [Bool.or_eq_true] at hv
        unfold amRecv
        dsimp only
        rcases go with z | ⟨z, z2⟩
        · rw [if_neg (by omega)]
        · rw [if_pos z, z2]
          rcases hv with u | u
          · have u := Nat.eq_of_beq_eq_true u
            subst u
            obtain ⟨vs, h1, -⟩ := x66 hH
            rw [h1]
            rfl
          · have u := Nat.eq_of_beq_eq_true u
            omega
      all_goals exact decide_eq_true (Nat.eq_of_beq_eq_true hv)
  have hcall : amCall amGG kd k cl st hp = some (.inr (.inr (.inr (k, av, rest)))) := by
    unfold amCall
    rw [hN]
    dsimp only
    rw [t1, t2, List.reverse_reverse, if_pos]
    refine ⟨by rw [hst, List.length_append]; omega, c2, ?_, c4⟩
    rw [hH.1, hl.1, hr, hrec]
    rfl
  have hdo : amDo amGG M none i k b pc cl st hp = some (.inr (.inr (.inr (k, av, rest)))) := by
    rcases hi with ⟨j, rfl, rfl, z1, z2⟩ | ⟨j, rfl, rfl, z1⟩
    · simp only [amDo, z1, z2, if_false]; exact hcall
    · simp only [amDo, z1, if_false]; exact hcall
  refine bWp_call (q := (pc, i, k, b)) hdo hN (bWp_mono hw (fun y hp1 hy => ?_))
  obtain ⟨v, rfl, hy⟩ := hy
  dsimp only
  rw [bUp_next hu (xI_suf hr2), ← e]
  exact hy cl hl
theorem xcall (q : Nat) {k : Nat} {j : _} (av rest : List Value) {st : List Value} (hH : bHk 84 bTT hp) (h : xI M pc (.invokevirtual j) k 0) (e : q = pc + 3) (hst : st = av.reverse ++ rest) (hc : xcOk 0 k av rest = true) (hr : amOkS 84 rest = true) (hv : xcRf 0 av = true)
    (hk : xK d k av hp (fun y hp1 => ∃ v, y = .inl v ∧ xV (d + 1) M q L (v.toList ++ rest) hp1 Q)) : xV (d + 1) M pc L st hp Q :=
  xcallG q hH h (Or.inl ⟨j, rfl, rfl, by decide, by decide⟩) e hst hc hr hv hk
theorem xcallS (q : Nat) {k : Nat} {j : _} (av rest : List Value) {st : List Value} (hH : bHk 84 bTT hp) (h : xI M pc (.invokestatic j) k 0) (e : q = pc + 3) (hst : st = av.reverse ++ rest) (hc : xcOk 1 k av rest = true) (hr : amOkS 84 rest = true) (hv : xcRf 1 av = true)
    (hk : xK d k av hp (fun y hp1 => ∃ v, y = .inl v ∧ xV (d + 1) M q L (v.toList ++ rest) hp1 Q)) : xV (d + 1) M pc L st hp Q :=
  xcallG q hH h (Or.inr ⟨j, rfl, rfl, by decide⟩) e hst hc hr hv hk
end XC
/-- beginning a method -/
def xAv (av : List Value) : Bool := av.all (fun v => Nat.beq v.category 1 && amOk 84 v)
theorem xAv_get : ∀ (av : List Value) (i : Nat), xAv av = true → ∀ k v, lAt (av.map some) k = some (some v) → v.category = 1 ∧ amGet (lv_args i av) (i + k) = some v
  | [], i, _, k, v, e => by cases e
  | u :: r, i, h, k, v, e => by
    unfold xAv at h
    rw [List.all_cons] at h
    simp only [Bool.and_eq_true] at h
    have hc := Nat.eq_of_beq_eq_true h.1.1
    match k, e with
    | 0, e =>
      cases e
      refine ⟨hc, ?_⟩
      unfold lv_args amGet
      rw [if_pos (by omega)]
    | k + 1, e =>
      obtain ⟨g1, g2⟩ := xAv_get r (i + 1) h.2 k v e
      refine ⟨g1, ?_⟩
      unfold lv_args amGet
      rw [if_neg (by dsimp only; omega), if_neg (by omega), show i + (k + 1) = i + 1 + k by omega]
      exact g2
theorem xAv_ok : ∀ (av : List Value) (i : Nat), xAv av = true → amOkL 84 (lv_args i av) = true
  | [], i, _ => rfl
  | u :: r, i, h => by
    unfold xAv at h
    rw [List.all_cons] at h
    simp only [Bool.and_eq_true] at h
    unfold lv_args amOkL
    rw [List.all_cons]
    exact Bool.and_eq_true_iff.mpr ⟨h.1.2, xAv_ok r _ h.2⟩
theorem xin {d k : Nat} {M : amM} {av : List Value} {hp : amH} {R : xQ} (hM : amGG k = some M) (h0 : amSeek M.1 0 = M.1) (ha : xAv av = true) (hw : xV d M 0 (av.map some) [] hp R) : xK d k av hp R := by
  refine ⟨M, hM, ?_⟩
  have := hw (lv_args 0 av) ⟨xAv_ok av 0 ha, fun k v e => by
    obtain ⟨g1, g2⟩ := xAv_get av 0 ha k v e
    rw [Nat.zero_add] at g2
    exact ⟨trivial, g2⟩⟩
  rw [h0] at this
  exact this
/-- a checked method called -/
theorem xsem {P : amH → Prop} {d k : Nat} {s : bSp} {av : List Value} {hp : amH} {R : xQ} (hs : bSem amGG P 84 bTT k s) (hd : s.2.2.1 ≤ d) (hH : bHk 84 bTT hp) (hP : P hp) (ha : bArgs 84 s.1 av) (hf : bFacts hp s.2.1)
    (hR : ∀ y hp1, bHk 84 bTT hp1 → P hp1 → bFr s.2.2.2.1 hp hp1 → bOut 84 s y hp1 → R y hp1) : xK d k av hp R := by
  obtain ⟨N, hN, hw⟩ := hs
  exact ⟨N, hN, bWp_deep (bWp_mono (hw av hp hH hP ha hf) (fun y hp1 h => hR y hp1 h.1 h.2.1 h.2.2.1 h.2.2.2)) hd⟩
