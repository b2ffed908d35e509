/-! ##### 19.b.count ##### -/
section
/-! ===== runs that count throws: rules ===== -/
abbrev cQ : Type := (Option Value ⊕ Nat) → amH → Nat → Nat → Prop
noncomputable def cV (sc : Option (List Int32)) (d : Nat) (M : amM) (pc : Nat) (L : List (Option Value)) (st : List Value) (hp : amH) (Q : cQ) : Prop := ∀ cl, lk cl L → ∀ kc ks, ∃ f y hp1 mc ms, amRun amGG sc f d M (amSeek M.1 pc) pc cl st hp kc ks = some (y, hp1, kc + mc, ks + ms) ∧ Q y hp1 mc ms
noncomputable def cK (d k : Nat) (av : List Value) (hp : amH) (R : cQ) : Prop := ∃ N, amGG k = some N ∧ ∃ f y hp1 mc ms, amRun amGG none f d N N.1 0 (lv_args 0 av) [] hp 0 0 = some (y, hp1, mc, ms) ∧ R y hp1 mc ms
theorem cmono {sc : Option (List Int32)} {d : Nat} {M : amM} {pc : Nat} {L : List (Option Value)} {st : List Value} {hp : amH} {Q Q1 : cQ} (hw : cV sc d M pc L st hp Q) (h : ∀ y hp1 mc ms, Q y hp1 mc ms → Q1 y hp1 mc ms) : cV sc d M pc L st hp Q1 := by
  intro cl hl kc ks
  obtain ⟨f, y, hp1, mc, ms, g1, g2⟩ := hw cl hl kc ks
  exact ⟨f, y, hp1, mc, ms, g1, h _ _ _ _ g2⟩
theorem cdrop {sc : Option (List Int32)} {d : Nat} {M : amM} {pc : Nat} {L L1 : List (Option Value)} {st : List Value} {hp : amH} {Q : cQ} (hl : ∀ k v, lAt L1 k = some (some v) → lAt L k = some (some v)) (hw : cV sc d M pc L1 st hp Q) : cV sc d M pc L st hp Q :=
  fun cl h => hw cl (lk_less h hl)
theorem cstep {sc : Option (List Int32)} {M : amM} {pc : Nat} {i : Instr} {a b d q : Nat} {L L1 : List (Option Value)} {st st1 : List Value} {hp hp1 : amH} {Q : cQ} (h : xI M pc i a b)
    (hs : ∀ cl, lk cl L → ∃ cl1, amDo amGG M sc i a b pc cl st hp = some (.inl ((q, cl1, st1, hp1), 0, 0)) ∧ lk cl1 L1) (hw : cV sc d M q L1 st1 hp1 Q) : cV sc d M pc L st hp Q := by
  intro cl hl kc ks
  obtain ⟨hu, r, hr⟩ := h
  obtain ⟨cl1, e, hl1⟩ := hs cl hl
  obtain ⟨f, y, hp2, mc, ms, g1, g2⟩ := hw cl1 hl1 kc ks
  refine ⟨f + 1, y, hp2, mc, ms, ?_, g2⟩
  rw [hr]
  simp only [amRun, if_true, e, Nat.add_zero]
  rw [bUp_next hu (xI_suf hr)]
  exact g1
/-- filtered locals -/
theorem fg_get {p : Nat × Value → Bool} {j : Nat} {w : Value} (hp : p (j, w) = true) : ∀ {cl : amL}, amGet cl j = some w → amGet (cl.filter p) j = some w
  | [], h => by cases h
  | q :: r, h => by
    unfold amGet at h
    by_cases e : q.1 = j
    · rw [if_pos e] at h
      cases h
      subst e
      rw [List.filter_cons_of_pos (by exact hp)]
      unfold amGet
      rw [if_pos rfl]
    · rw [if_neg e] at h
      have ih := fg_get hp h
      by_cases hq : p q = true
      · rw [List.filter_cons_of_pos hq]
        unfold amGet
        rw [if_neg e]
        exact ih
      · rw [List.filter_cons_of_neg hq]
        exact ih
theorem fg_ok {n : Nat} {p : Nat × Value → Bool} {cl : amL} (h : amOkL n cl = true) : amOkL n (cl.filter p) = true := by
  unfold amOkL at *
  rw [List.all_eq_true] at h ⊢
  exact fun x hx => h x (List.mem_filter.mp hx).1
theorem lAt_len : ∀ {L : List (Option Value)} {k : Nat} {v : Value}, lAt L k = some (some v) → k < L.length
  | [], _, _, h => by cases h
  | _ :: _, 0, _, _ => Nat.succ_pos _
  | _ :: r, k + 1, v, h => Nat.succ_lt_succ (lAt_len (L := r) (k := k) h)
theorem lk_up1 {cl : amL} {L : List (Option Value)} (h : lk cl L) {k : Nat} {v : Value} (hk : Nat.ble L.length k = true) (hv : amOk 84 v = true) : lk (amSet1 cl k v) L := by
  have hk := Nat.le_of_ble_eq_true hk
  refine ⟨?_, fun j u hu => ?_⟩
  · unfold amSet1
    unfold amOkL
    rw [List.all_cons, hv]
    exact fg_ok h.1
  · obtain ⟨g1, g2⟩ := h.2 j u hu
    have hj := lAt_len hu
    refine ⟨g1, ?_⟩
    unfold amSet1
    unfold amGet
    rw [if_neg (show ¬ k = j by omega)]
    refine fg_get ?_ g2
    dsimp only
    rw [g1]
    have : (j == k) = false := by rw [beq_eq_false_iff_ne]; omega
    rw [this]
    simp
theorem lk_up2 {cl : amL} {L : List (Option Value)} (h : lk cl L) {k : Nat} {v : Value} (hk : Nat.ble L.length k = true) (hv : amOk 84 v = true) : lk (amSet2 cl k v) L := by
  have hk := Nat.le_of_ble_eq_true hk
  refine ⟨?_, fun j u hu => ?_⟩
  · unfold amSet2
    unfold amOkL
    rw [List.all_cons, hv]
    exact fg_ok h.1
  · obtain ⟨g1, g2⟩ := h.2 j u hu
    have hj := lAt_len hu
    refine ⟨g1, ?_⟩
    unfold amSet2
    unfold amGet
    rw [if_neg (show ¬ k = j by omega)]
    refine fg_get ?_ g2
    dsimp only
    rw [g1]
    have e1 : (j == k) = false := by rw [beq_eq_false_iff_ne]; omega
    have e2 : (j == k + 1) = false := by rw [beq_eq_false_iff_ne]; omega
    rw [e1, e2]
    simp
theorem lk_none {cl : amL} (h : amOkL 84 cl = true) : lk cl [] := ⟨h, fun k v e => by cases e⟩
section CR
variable {sc : Option (List Int32)} {M : amM} {pc a b d : Nat} {L : List (Option Value)} {st : List Value} {hp : amH} {Q : cQ}
theorem cild (q : Nat) {n : Fin 4} {x : Int32} (h : xI M pc (.iload_n n) a b) (e : q = pc + 1) (l : lAt L (n : Nat) = some (some (.int x))) (hw : cV sc d M q L (.int x :: st) hp Q) : cV sc d M pc L st hp Q := by
  refine cstep h (fun cl hl => ⟨cl, ?_, hl⟩) hw
  have hg := (hl.2 _ _ l).2
  subst e
  simp [amDo, amStep, amLd, hg, isI_int]
theorem cild2 (q : Nat) {k : Nat} {x : Int32} (h : xI M pc (.iload k) a b) (e : q = pc + 2) (l : lAt L k = some (some (.int x))) (hw : cV sc d M q L (.int x :: st) hp Q) : cV sc d M pc L st hp Q := by
  refine cstep h (fun cl hl => ⟨cl, ?_, hl⟩) hw
  have hg := (hl.2 _ _ l).2
  subst e
  simp [amDo, amStep, amLd, hg, isI_int]
theorem cald (q : Nat) {n : Fin 4} {x : Nat} (h : xI M pc (.aload_n n) a b) (e : q = pc + 1) (l : lAt L (n : Nat) = some (some (.ref x))) (hw : cV sc d M q L (.ref x :: st) hp Q) : cV sc d M pc L st hp Q := by
  refine cstep h (fun cl hl => ⟨cl, ?_, hl⟩) hw
  have hg := (hl.2 _ _ l).2
  subst e
  simp [amDo, amStep, amLd, hg, isA_ref]
theorem cald2 (q : Nat) {k : Nat} {x : Nat} (h : xI M pc (.aload k) a b) (e : q = pc + 2) (l : lAt L k = some (some (.ref x))) (hw : cV sc d M q L (.ref x :: st) hp Q) : cV sc d M pc L st hp Q := by
  refine cstep h (fun cl hl => ⟨cl, ?_, hl⟩) hw
  have hg := (hl.2 _ _ l).2
  subst e
  simp [amDo, amStep, amLd, hg, isA_ref]
theorem ccst (q : Nat) (m : Int) {n : Int} (h : xI M pc (.iconst n) a b) (e : q = pc + 1) (hm : (Int32.ofInt n).toInt = m) (hw : ∀ z : Int32, z.toInt = m → cV sc d M q L (.int z :: st) hp Q) : cV sc d M pc L st hp Q := by
  refine cstep h (fun cl hl => ⟨cl, ?_, hl⟩) (hw _ hm)
  subst e
  simp [amDo, amStep]
theorem cbip (q : Nat) (m : Int) {n : Int} (h : xI M pc (.bipush n) a b) (e : q = pc + 2) (hm : (Int8.ofInt n).toInt32.toInt = m) (hw : ∀ z : Int32, z.toInt = m → cV sc d M q L (.int z :: st) hp Q) : cV sc d M pc L st hp Q := by
  refine cstep h (fun cl hl => ⟨cl, ?_, hl⟩) (hw _ hm)
  subst e
  simp [amDo, amStep]
theorem cadd (q : Nat) (m : Int) {x y : Int32} (h : xI M pc .iadd a b) (e : q = pc + 1) (hm : x.toInt + y.toInt = m) (h1 : -2147483648 ≤ m) (h2 : m ≤ 2147483647) (hw : ∀ z : Int32, z.toInt = m → cV sc d M q L (.int z :: st) hp Q) : cV sc d M pc L (.int y :: .int x :: st) hp Q := by
  subst hm
  refine cstep h (fun cl hl => ⟨cl, ?_, hl⟩) (hw (x + y) (by rw [Int32.toInt_add, aBmod h1 h2]))
  subst e
  simp [amDo, amStep, amII]
theorem csub (q : Nat) (m : Int) {x y : Int32} (h : xI M pc .isub a b) (e : q = pc + 1) (hm : x.toInt - y.toInt = m) (h1 : -2147483648 ≤ m) (h2 : m ≤ 2147483647) (hw : ∀ z : Int32, z.toInt = m → cV sc d M q L (.int z :: st) hp Q) : cV sc d M pc L (.int y :: .int x :: st) hp Q := by
  subst hm
  refine cstep h (fun cl hl => ⟨cl, ?_, hl⟩) (hw (x - y) (by rw [Int32.toInt_sub, aBmod h1 h2]))
  subst e
  simp [amDo, amStep, amII]
theorem cand (q : Nat) {x y : Int32} (h : xI M pc .iand a b) (e : q = pc + 1) (hw : cV sc d M q L (.int (x &&& y) :: st) hp Q) : cV sc d M pc L (.int y :: .int x :: st) hp Q := by
  refine cstep h (fun cl hl => ⟨cl, ?_, hl⟩) hw
  subst e
  simp [amDo, amStep, amII]
theorem cpop (q : Nat) {v : Value} (h : xI M pc .pop a b) (e : q = pc + 1) (hv : v.category = 1) (hw : cV sc d M q L st hp Q) : cV sc d M pc L (v :: st) hp Q := by
  refine cstep h (fun cl hl => ⟨cl, ?_, hl⟩) hw
  subst e
  simp [amDo, amStep, hv]
theorem cgoto {i : Int} (h : xI M pc (.goto i) a b) (hw : cV sc d M a L st hp Q) : cV sc d M pc L st hp Q := by
  refine cstep h (fun cl hl => ⟨cl, ?_, hl⟩) hw
  simp [amDo, amStep]
theorem cinc (q : Nat) (m : Int) {k : Nat} {n : Int} {x : Int32} (h : xI M pc (.iinc k n) a b) (e : q = pc + 3) (hk : Nat.ble (k + 1) M.2.1 = true) (l : lAt L k = some (some (.int x))) (hm : (Int32.ofInt n).toInt = m) (h1 : -2147483648 ≤ x.toInt + m) (h2 : x.toInt + m ≤ 2147483647) (hw : ∀ z : Int32, z.toInt = x.toInt + m → cV sc d M q (lSet L k (.int z)) st hp Q) : cV sc d M pc L st hp Q := by
  have hk : k < M.2.1 := Nat.le_of_ble_eq_true hk
  refine cstep h (fun cl hl => ⟨amSet1 cl k (.int (x + Int32.ofInt n)), ?_, lk_set hl k _⟩) (hw _ (by rw [Int32.toInt_add, hm, aBmod h1 h2]))
  have hg := (hl.2 k _ l).2
  subst e
  simp [amDo, amStep, amInc, hg, hk]
theorem ci2l (q : Nat) {x : Int32} (h : xI M pc .i2l a b) (e : q = pc + 1) (hw : ∀ z : Int64, cV sc d M q L (.long z :: st) hp Q) : cV sc d M pc L (.int x :: st) hp Q := by
  refine cstep h (fun cl hl => ⟨cl, ?_, hl⟩) (hw x.toInt64)
  subst e
  simp [amDo, amStep, amI]
theorem cf2d (q : Nat) {x : UInt32} (h : xI M pc .f2d a b) (e : q = pc + 1) (hx : FP.Core.decode FP.Core.b32 x.toNat ≠ .nan) (hw : ∀ z : UInt64, cV sc d M q L (.double z :: st) hp Q) : cV sc d M pc L (.float x :: st) hp Q := by
  refine cstep h (fun cl hl => ⟨cl, ?_, hl⟩) (hw (FP.f2d x))
  subst e
  simp only [amDo, amStep]
  rw [if_pos (fl_f2d hx)]
  rfl
/-- what is kept above the known locals -/
theorem cistU (q : Nat) {k : Nat} {x : Int32} (h : xI M pc (.istore k) a b) (e : q = pc + 2) (hk : Nat.ble L.length k = true) (hm : Nat.ble (k + 1) M.2.1 = true) (hw : cV sc d M q L st hp Q) : cV sc d M pc L (.int x :: st) hp Q := by
  have hm : k < M.2.1 := Nat.le_of_ble_eq_true hm
  refine cstep h (fun cl hl => ⟨amSet1 cl k (.int x), ?_, lk_up1 hl hk rfl⟩) hw
  subst e
  simp [amDo, amStep, amSt1, isI_int, hm]
theorem clstU (q : Nat) {k : Nat} {x : Int64} (h : xI M pc (.lstore k) a b) (e : q = pc + 2) (hk : Nat.ble L.length k = true) (hm : Nat.ble (k + 2) M.2.1 = true) (hw : cV sc d M q L st hp Q) : cV sc d M pc L (.long x :: st) hp Q := by
  have hm : k + 1 < M.2.1 := Nat.le_of_ble_eq_true hm
  refine cstep h (fun cl hl => ⟨amSet2 cl k (.long x), ?_, lk_up2 hl hk rfl⟩) hw
  subst e
  simp [amDo, amStep, amSt2, amIsJ, hm]
theorem cdstU (q : Nat) {k : Nat} {x : UInt64} (h : xI M pc (.dstore k) a b) (e : q = pc + 2) (hk : Nat.ble L.length k = true) (hm : Nat.ble (k + 2) M.2.1 = true) (hw : cV sc d M q L st hp Q) : cV sc d M pc L (.double x :: st) hp Q := by
  have hm : k + 1 < M.2.1 := Nat.le_of_ble_eq_true hm
  refine cstep h (fun cl hl => ⟨amSet2 cl k (.double x), ?_, lk_up2 hl hk rfl⟩) hw
  subst e
  simp [amDo, amStep, amSt2, amIsD, hm]
/-- a long kept in the one cell for it -/
theorem clast (q : Nat) {x : Int32} {v : Int64} (hH : bHk 84 bTT hp) (h : xI M pc .lastore a b) (e : q = pc + 1) (hx : x.toInt = 0) (hw : ∀ hp1, bHk 84 bTT hp1 → bFr [(83, 999)] hp hp1 → cV sc d M q L st hp1 Q) : cV sc d M pc L (.long v :: .int x :: .ref 83 :: st) hp Q := by
  obtain ⟨⟨t1, vs⟩, g1, g2⟩ := bHk_at hH (i := 83) (by decide) (D := (33, 1, [.inr (.inl 1)])) rfl
  have t33 : t1 = 33 := g2.1
  subst t33
  have g3 : vs.length = 1 := g2.2.1
  obtain ⟨e1, e2⟩ := rw_in (i := x) (n := 0) (m := vs.length) (by omega) (by omega)
  refine cstep h (fun cl hl => ⟨cl, ?_, hl⟩) (hw (hp.set 83 (33, vs.set 0 (.long v))) (bHk_set hH rfl (bHc_set g2 (y := .inr (.inl 1)) rfl (Or.inl ⟨rfl, _, rfl⟩))) (bFr_set (d := (33, vs)) g1 rfl))
  subst e
  simp only [amDo, amStep, amASt, g1, e1, e2, amIsJ, and_self, if_true, id, Option.map_some]
theorem cif (q : Nat) {i : Int} {x : Int32} (h : xI M pc (.ifCond .eq i) a b) (e : q = pc + 3) (hw1 : cV sc d M a L st hp Q) (hw2 : cV sc d M q L st hp Q) : cV sc d M pc L (.int x :: st) hp Q := by
  subst e
  cases hc : amIfP .eq x
  · refine cstep h (fun cl hl => ⟨cl, ?_, hl⟩) hw2
    simp [amDo, amStep, amIf, hc]
  · refine cstep h (fun cl hl => ⟨cl, ?_, hl⟩) hw1
    simp [amDo, amStep, amIf, hc]
theorem ccmp (q : Nat) {c : Jvm.ClassFile.Cond} {i : Int} {x y : Int32} (h : xI M pc (.if_icmp c i) a b) (e : q = pc + 3) (hw1 : amCmpP c x y = true → cV sc d M a L st hp Q) (hw2 : amCmpP c x y = false → cV sc d M q L st hp Q) : cV sc d M pc L (.int y :: .int x :: st) hp Q := by
  subst e
  cases hc : amCmpP c x y
  · refine cstep h (fun cl hl => ⟨cl, ?_, hl⟩) (hw2 hc)
    simp [amDo, amStep, amCmp, hc]
  · refine cstep h (fun cl hl => ⟨cl, ?_, hl⟩) (hw1 hc)
    simp [amDo, amStep, amCmp, hc]
theorem ccmp_gt (q : Nat) {i : Int} {x y : Int32} (h : xI M pc (.if_icmp .gt i) a b) (e : q = pc + 3) (hw1 : y.toInt < x.toInt → cV sc d M a L st hp Q) (hw2 : ¬ y.toInt < x.toInt → cV sc d M q L st hp Q) : cV sc d M pc L (.int y :: .int x :: st) hp Q :=
  have z := z_cmp (c := .gt) (p := fun x y => y < x) (fun x y => by simp only [amCmpP, decide_eq_true_eq]; exact Int32.lt_iff_toInt_lt) (x := x) (y := y)
  ccmp q h e (fun u => hw1 (z.1 u)) (fun u => hw2 (z.2 u))
theorem ccmp_eq (q : Nat) {i : Int} {x y : Int32} (h : xI M pc (.if_icmp .eq i) a b) (e : q = pc + 3) (hw1 : x.toInt = y.toInt → cV sc d M a L st hp Q) (hw2 : ¬ x.toInt = y.toInt → cV sc d M q L st hp Q) : cV sc d M pc L (.int y :: .int x :: st) hp Q :=
  have z := z_cmp (c := .eq) (p := fun x y => x = y) (fun x y => by simp only [amCmpP, decide_eq_true_eq]; exact x_eq) (x := x) (y := y)
  ccmp q h e (fun u => hw1 (z.1 u)) (fun u => hw2 (z.2 u))
theorem ctab (q : Nat) {dd lo hi : Int} {offs : Array Int} {x : Int32} {o : Int} (h : xI M pc (.tableswitch dd lo hi offs) a b) (ho : amOff x.toInt dd lo hi offs = some o) (e : (q : Int) = (pc : Int) + o) (hw : cV sc d M q L st hp Q) : cV sc d M pc L (.int x :: st) hp Q := by
  refine cstep h (fun cl hl => ⟨cl, ?_, hl⟩) hw
  simp only [amDo, amStep, amTbl, ho]
  rw [if_pos (by omega), ← e]
  rfl
theorem cret {x : Int32} (h : xI M pc .ireturn a b) (hr : M.2.2.2.2.1 = some .int ∨ (M.2.2.2.2.1 = some .boolean ∧ x = 1)) (hQ : Q (.inl (some (.int x))) hp 0 0) : cV sc d M pc L [.int x] hp Q := by
  intro cl hl kc ks
  obtain ⟨hu, r, hr2⟩ := h
  rw [hr2]
  refine ⟨1, .inl (some (.int x)), hp, 0, 0, ?_, hQ⟩
  have e : amDo amGG M sc .ireturn a b pc cl [.int x] hp = some (.inr (.inl (some (.int x)))) := by
    rcases hr with hr | ⟨hr, rfl⟩
    · simp [amDo, amRetV, hr, narrow]
    · simp [amDo, amRetV, hr, narrow]
  simp only [amRun, if_true, e, Nat.add_zero]
end CR
/-- the script's words -/
theorem clen {l : List Int32} {M : amM} {pc a b d : Nat} {L : List (Option Value)} {st : List Value} {hp : amH} {Q : cQ} (q : Nat) (h : xI M pc .arraylength a b) (e : q = pc + 1) (hl9 : l.length ≤ 2147483647) (hw : ∀ z : Int32, z.toInt = (l.length : Int) → cV (some l) d M q L (.int z :: st) hp Q) : cV (some l) d M pc L (.ref amS :: st) hp Q := by
  refine cstep h (fun cl hl => ⟨cl, ?_, hl⟩) (hw (Int32.ofNat l.length) (Int32.toInt_ofNat_of_lt (by omega)))
  subst e
  simp [amDo, amStep, amScLen]
theorem cscl {l : List Int32} {M : amM} {pc a b d : Nat} {L : List (Option Value)} {st : List Value} {hp : amH} {Q : cQ} (q : Nat) {x : Int32} (h : xI M pc .iaload a b) (e : q = pc + 1) (h0 : 0 ≤ x.toInt) (h1 : x.toInt < (l.length : Int)) (hw : ∀ z : Int32, cV (some l) d M q L (.int z :: st) hp Q) : cV (some l) d M pc L (.int x :: .ref amS :: st) hp Q := by
  have e2 := (rw_in (i := x) (n := x.toInt.toNat) (m := l.length) (by omega) (by omega)).2
  refine cstep h (fun cl hl => ⟨cl, ?_, hl⟩) (hw (l.getD x.toNatClampNeg 0))
  subst e
  simp only [amDo, amStep, amSc]
  rw [if_pos ⟨trivial, e2⟩]
  rfl
/-- what a call may come to: an answer, or what is caught -/
theorem ccall {sc : Option (List Int32)} {M : amM} {pc b d q : Nat} {L : List (Option Value)} {hp : amH} {Q : cQ} {k kd t : Nat} {i : Instr} {N : amM} (av rest : List Value) {st : List Value} (hH : bHk 84 bTT hp) (h : xI M pc i k b) (hi : (∃ j, i = .invokevirtual j ∧ kd = 0 ∧ ¬ b = 7 ∧ ¬ b = 8) ∨ (∃ j, i = .invokestatic j ∧ kd = 1 ∧ ¬ b = 6)) (e : q = pc + 3) (hst : st = av.reverse ++ rest) (hN : amGG k = some N)
    (hc : N.2.2.1 = av.length ∧ Nat.ble ((av.reverse.map fun v => v.category).sum) N.2.1 = true ∧ Nat.ble ((rest.map fun v => v.category).sum) 8 = true) (hr : amOkS 84 rest = true) (hrec : amRecv kd N.2.2.2.2.2.2 hp av = true) (ht : M.2.2.2.2.2.1.length = t)
    (hk : cK d k av hp (fun y hp1 mc ms => (∃ v, y = .inl v ∧ cV sc (d + 1) M q L (v.toList ++ rest) hp1 (fun y2 hp2 mc2 ms2 => Q y2 hp2 (mc + mc2) (ms + ms2))) ∨ (∃ E h x to, y = .inr E ∧ amMay i b = true ∧ Nat.ble 1 t = true ∧ amHand M.2.2.2.2.2.1 pc E = some (h, x, to) ∧ cV sc (d + 1) M to [] [] hp1 (fun y2 hp2 mc2 ms2 => Q y2 hp2 (mc + mc2) (ms + ms2))))) : cV sc (d + 1) M pc L st hp Q := by
  intro cl hl kc ks
  obtain ⟨hu, r, hr2⟩ := h
  obtain ⟨N', hN', f1, y, hp1, mc, ms, hw1, hw2⟩ := hk
  rw [hN] at hN'
  cases hN'
  obtain ⟨c1, c3, c4⟩ := hc
  have c3 := Nat.le_of_ble_eq_true c3
  have c4 := Nat.le_of_ble_eq_true c4
  have hlen : av.reverse.length = N.2.2.1 := by rw [List.length_reverse, c1]
  have t1 : st.take N.2.2.1 = av.reverse := by rw [hst, ← hlen, List.take_left]
  have t2 : st.drop N.2.2.1 = rest := by rw [hst, ← hlen, List.drop_left]
  have hcall : amCall amGG kd k cl st hp = some (.inr (.inr (.inr (k, av, rest)))) := by
    unfold amCall
    rw [hN]
    dsimp only
    rw [t1, t2, List.reverse_reverse, if_pos]
    refine ⟨by rw [hst, List.length_append]; omega, c3, ?_, c4⟩
    rw [hH.1, hl.1, hr, hrec]
    rfl
  have hdo : amDo amGG M sc i k b pc cl st hp = some (.inr (.inr (.inr (k, av, rest)))) := by
    rcases hi with ⟨j, rfl, rfl, z1, z2⟩ | ⟨j, rfl, rfl, z1⟩
    · simp only [amDo, z1, z2, if_false]; exact hcall
    · simp only [amDo, z1, if_false]; exact hcall
  rw [hr2]
  rcases hw2 with ⟨v, rfl, hv⟩ | ⟨E, hh, x, to, rfl, m1, m2, m3, hv⟩
  · obtain ⟨f2, y2, hp2, mc2, ms2, g1, g2⟩ := hv cl hl (kc + mc) (ks + ms)
    refine ⟨max f1 f2 + 1, y2, hp2, mc + mc2, ms + ms2, ?_, g2⟩
    have w1 := amRun_more _ _ _ _ _ _ _ _ _ _ _ _ hw1 (max f1 f2) d (Nat.le_max_left _ _) (Nat.le_refl _)
    have w2 := amRun_more _ _ _ _ _ _ _ _ _ _ _ _ g1 (max f1 f2) (d + 1) (Nat.le_max_right _ _) (Nat.le_refl _)
    simp only [amRun, if_true, hdo, hN, w1]
    rw [bUp_next hu (xI_suf hr2), ← e, w2, Nat.add_assoc, Nat.add_assoc]
  · obtain ⟨f2, y2, hp2, mc2, ms2, g1, g2⟩ := hv (amDrop cl x) (lk_none (fg_ok hl.1)) (kc + mc) (ks + ms)
    refine ⟨max f1 f2 + 1, y2, hp2, mc + mc2, ms + ms2, ?_, g2⟩
    have w1 := amRun_more _ _ _ _ _ _ _ _ _ _ _ _ hw1 (max f1 f2) d (Nat.le_max_left _ _) (Nat.le_refl _)
    have w2 := amRun_more _ _ _ _ _ _ _ _ _ _ _ _ g1 (max f1 f2) (d + 1) (Nat.le_max_right _ _) (Nat.le_refl _)
    have m4 : ¬ M.2.2.2.2.2.1 = [] := fun z => by
      have := Nat.le_of_ble_eq_true m2
      rw [← ht, z] at this
      exact absurd this (by decide)
    simp only [amRun, if_true, hdo, hN, w1, m1, m3, m4, if_false, Bool.true_eq_false]
    rw [w2, Nat.add_assoc, Nat.add_assoc]
theorem cin {d k : Nat} {M : amM} {av : List Value} {hp : amH} {R : cQ} (hM : amGG k = some M) (h0 : amSeek M.1 0 = M.1) (ha : xAv av = true) (hw : cV none d M 0 (av.map some) [] hp R) : cK d k av hp R := by
  refine ⟨M, hM, ?_⟩
  have hl : lk (lv_args 0 av) (av.map some) := ⟨xAv_ok av 0 ha, fun k v e => by
    have := xAv_get av 0 ha k v e
    rw [Nat.zero_add] at this
    exact this⟩
  obtain ⟨f, y, hp1, mc, ms, g1, g2⟩ := hw _ hl 0 0
  rw [h0, Nat.zero_add, Nat.zero_add] at g1
  exact ⟨f, y, hp1, mc, ms, g1, g2⟩
theorem cK_mono {d k : Nat} {av : List Value} {hp : amH} {R R1 : cQ} (h : cK d k av hp R) (hR : ∀ y hp1 mc ms, R y hp1 mc ms → R1 y hp1 mc ms) : cK d k av hp R1 := by
  obtain ⟨N, h1, f, y, hp1, mc, ms, h2, h3⟩ := h
  exact ⟨N, h1, f, y, hp1, mc, ms, h2, hR _ _ _ _ h3⟩
theorem cK_of {d k : Nat} {av : List Value} {hp : amH} {R : xQ} (h : xK d k av hp R) : cK d k av hp (fun y hp1 mc ms => mc = (bCnt y).1 ∧ ms = (bCnt y).2 ∧ R y hp1) := by
  obtain ⟨N, h1, f, y, hp1, h2, h3⟩ := h
  exact ⟨N, h1, f, y, hp1, _, _, h2, rfl, rfl, h3⟩
end
/-! ##### 19.m.000.25a ##### -/
section
/-! ===== the text, read: what comes of it (pure) ===== -/
/-- on from p as long as P holds, f times at most -/
noncomputable def tR (P : Nat → Bool) : Nat → Nat → Nat
  | 0, p => p
  | f + 1, p => if P p = true then tR P f (p + 1) else p
theorem tR_eq {P : Nat → Bool} : ∀ (f p q : Nat), p ≤ q → q ≤ p + f → (∀ k, p ≤ k → k < q → P k = true) → (q < p + f → P q = false) → tR P f p = q
  | 0, p, q, h1, h2, _, _ => by unfold tR; omega
  | f + 1, p, q, h1, h2, h3, h4 => by
    unfold tR
    by_cases hp : p = q
    · subst hp
      rw [h4 (by omega)]
      rfl
    · rw [if_pos (h3 p (Nat.le_refl _) (by omega))]
      exact tR_eq f (p + 1) q (by omega) (by omega) (fun k k1 k2 => h3 k (by omega) k2) (fun h => h4 (by omega))
theorem tR_ge {P : Nat → Bool} : ∀ (f p : Nat), p ≤ tR P f p
  | 0, p => Nat.le_refl _
  | f + 1, p => by
    unfold tR
    split
    · have := tR_ge (P := P) f (p + 1); omega
    · exact Nat.le_refl _
theorem tR_le {P : Nat → Bool} {n : Nat} (h : ∀ k, P k = true → k < n) : ∀ (f p : Nat), p ≤ n → tR P f p ≤ n
  | 0, p, hp => hp
  | f + 1, p, hp => by
    unfold tR
    split
    · next e => have := h p e; exact tR_le h f (p + 1) (by omega)
    · exact hp
theorem tR_lt {P : Nat → Bool} {f p : Nat} (h : P p = true) : p < tR P (f + 1) p := by
  unfold tR
  rw [if_pos h]
  have := tR_ge (P := P) f (p + 1)
  omega
abbrev tY : Type := Nat → Int
noncomputable def tSp (y : tY) (k : Nat) : Bool := decide (y k = 32 ∨ y k = 10)
noncomputable def tLt (y : tY) (k : Nat) : Bool := decide (97 ≤ y k ∧ y k ≤ 122)
noncomputable def tDg (y : tY) (k : Nat) : Bool := decide (48 ≤ y k ∧ y k ≤ 57)
/-- a text of n bytes: behind it there is nothing -/
noncomputable def tOk (n : Nat) (y : tY) : Prop := n ≤ 600 ∧ (∀ k, k < n → 0 ≤ y k ∧ y k ≤ 255) ∧ ∀ k, n ≤ k → y k = -1
theorem tOk_lt {n : Nat} {y : tY} (h : tOk n y) {k : Nat} (hk : 0 ≤ y k) : k < n := by
  rcases Nat.lt_or_ge k n with g | g
  · exact g
  · have := h.2.2 k g; omega
theorem tSp_n {n : Nat} {y : tY} (h : tOk n y) (k : Nat) (e : tSp y k = true) : k < n := tOk_lt h (by have := of_decide_eq_true e; omega)
theorem tLt_n {n : Nat} {y : tY} (h : tOk n y) (k : Nat) (e : tLt y k = true) : k < n := tOk_lt h (by have := of_decide_eq_true e; omega)
theorem tDg_n {n : Nat} {y : tY} (h : tOk n y) (k : Nat) (e : tDg y k = true) : k < n := tOk_lt h (by have := of_decide_eq_true e; omega)
/-- where the next token begins -/
noncomputable def tS (y : tY) (p : Nat) : Nat := tR (tSp y) 601 p
/-- where the token at s ends -/
noncomputable def tE (y : tY) (s : Nat) : Nat := if y s = -1 then s else if tLt y s = true then tR (tLt y) 601 s else if tDg y s = true then tR (tDg y) 601 s else s + 1
noncomputable def tK (y : tY) (s : Nat) : Int := if y s = -1 then 0 else if tLt y s = true then 1 else if tDg y s = true then 2 else if y s = 59 then 3 else 4
noncomputable def tN (y : tY) (s : Nat) : Nat := tS y (tE y s)
/-- the number at s, of one digit or two -/
noncomputable def tV (y : tY) (s : Nat) : Int := if tE y s = s + 1 then y s - 48 else 10 * (y s - 48) + (y (s + 1) - 48)
noncomputable def tWd (y : tY) (s : Nat) (l : List Int32) : Bool := decide (tK y s = 1 ∧ tE y s = s + l.length ∧ ∀ k, k < l.length → y (s + k) = (l.getD k 0).toInt)
theorem tE_ge {y : tY} {s : Nat} : s ≤ tE y s := by
  unfold tE
  split
  · exact Nat.le_refl _
  · split
    · exact tR_ge _ _
    · split
      · exact tR_ge _ _
      · omega
theorem tE_gt {n : Nat} {y : tY} (h : tOk n y) {s : Nat} (hs : tK y s ≠ 0) : s < tE y s := by
  unfold tK at hs
  unfold tE
  split
  · next e => rw [if_pos e] at hs; exact absurd rfl hs
  · split
    · next e => exact tR_lt e
    · split
      · next e => exact tR_lt e
      · omega
theorem tE_le {n : Nat} {y : tY} (h : tOk n y) {s : Nat} (hs : s ≤ n) : tE y s ≤ n := by
  unfold tE
  split
  · exact hs
  · next e0 =>
    split
    · exact tR_le (tLt_n h) _ _ hs
    · split
      · exact tR_le (tDg_n h) _ _ hs
      · rcases Nat.lt_or_ge s n with g | g
        · omega
        · exact absurd (h.2.2 s g) e0
theorem tS_ge {y : tY} {p : Nat} : p ≤ tS y p := tR_ge _ _
theorem tS_le {n : Nat} {y : tY} (h : tOk n y) {p : Nat} (hp : p ≤ n) : tS y p ≤ n := tR_le (tSp_n h) _ _ hp
theorem tN_le {n : Nat} {y : tY} (h : tOk n y) {s : Nat} (hs : s ≤ n) : tN y s ≤ n := tS_le h (tE_le h hs)
theorem tN_ge {y : tY} {s : Nat} : s ≤ tN y s := Nat.le_trans tE_ge tS_ge
theorem tN_gt {n : Nat} {y : tY} (h : tOk n y) {s : Nat} (hs : tK y s ≠ 0) : s < tN y s := Nat.lt_of_lt_of_le (tE_gt h hs) tS_ge
theorem tK_0 {y : tY} {s : Nat} : tK y s = 0 ↔ y s = -1 := by
  unfold tK
  constructor
  · intro h
    split at h
    · next e => exact e
    · split at h
      · cases h
      · split at h
        · cases h
        · split at h <;> cases h
  · intro h
    rw [if_pos h]
/-- a number where one is wanted, from lo to hi, none of those before: 0, or the error's code -/
noncomputable def tNum (y : tY) (s : Nat) (lo hi : Int) (pre : List Int) : Int := if ¬ (tK y s = 2 ∧ tE y s ≤ s + 2) then 1 else if tV y s < lo ∨ hi < tV y s then 2 else if tV y s ∈ pre then 2 else 0
end
/-! ##### 19.m.001.25b ##### -/
section
/-! ===== systems (pure): triples put, taken, developed; texts read ===== -/
abbrev sT : Type := Nat → Nat → Int
/-- three points' pairs (as pr, of another part) -/
abbrev sPr (x y z u v : Nat) : Prop := ¬ u = v ∧ (u = x ∨ u = y ∨ u = z) ∧ (v = x ∨ v = y ∨ v = z)
noncomputable def sE : sT := fun _ _ => -1
abbrev sFree (T : sT) (a b c : Nat) : Prop := T a b = -1 ∧ T b c = -1 ∧ T a c = -1
noncomputable def sPut (T : sT) (x y z : Nat) : sT := fun u v => if sPr x y z u v then (x : Int) + y + z - u - v else T u v
noncomputable def sTake (T : sT) (x y z : Nat) : sT := fun u v => if sPr x y z u v then -1 else T u v
/-- a system of V points -/
noncomputable def sOk (V : Nat) (T : sT) : Prop := 3 ≤ V ∧ V ≤ 15 ∧ ∀ a b : Nat, T a b = -1 ∨ ∃ c : Nat, T a b = (c : Int) ∧ a < V ∧ b < V ∧ c < V ∧ a ≠ b ∧ a ≠ c ∧ b ≠ c ∧ T b a = (c : Int) ∧ T a c = (b : Int)
noncomputable def m3 (x y z : Nat) : Nat := 2 ^ x ||| 2 ^ y ||| 2 ^ z
/-- developed: the turns from k on -/
noncomputable def sDv (V a b c : Nat) : Nat → Nat → sT → Nat → Option (sT × Nat)
  | 0, _, T, n => some (T, n)
  | f + 1, k, T, n => if 0 < k ∧ m3 ((a + k) % V) ((b + k) % V) ((c + k) % V) = m3 a b c then some (T, n) else
      if sFree T ((a + k) % V) ((b + k) % V) ((c + k) % V) then sDv V a b c f (k + 1) (sPut T ((a + k) % V) ((b + k) % V) ((c + k) % V)) (n + 1) else none
abbrev tEr : Type := Int × Nat
noncomputable def wPts : List Int32 := [112, 111, 105, 110, 116, 115]
noncomputable def wDev : List Int32 := [100, 101, 118, 101, 108, 111, 112]
noncomputable def wTri : List Int32 := [116, 114, 105, 112, 108, 101]
/-- a statement behind the first, from its word at s -/
noncomputable def tSt (y : tY) (V : Nat) (T : sT) (s : Nat) : tEr ⊕ (sT × Nat) :=
  if ¬ (tWd y s wDev ∨ tWd y s wTri) then .inl (1, s) else
  if ¬ tNum y (tN y s) 0 ((V : Int) - 1) [] = 0 then .inl (tNum y (tN y s) 0 ((V : Int) - 1) [], tN y s) else
  if ¬ tNum y (tN y (tN y s)) 0 ((V : Int) - 1) [tV y (tN y s)] = 0 then .inl (tNum y (tN y (tN y s)) 0 ((V : Int) - 1) [tV y (tN y s)], tN y (tN y s)) else
  if ¬ tNum y (tN y (tN y (tN y s))) 0 ((V : Int) - 1) [tV y (tN y s), tV y (tN y (tN y s))] = 0 then .inl (tNum y (tN y (tN y (tN y s))) 0 ((V : Int) - 1) [tV y (tN y s), tV y (tN y (tN y s))], tN y (tN y (tN y s))) else
  if ¬ tK y (tN y (tN y (tN y (tN y s)))) = 3 then .inl (1, tN y (tN y (tN y (tN y s)))) else
  if ¬ sFree T (tV y (tN y s)).toNat (tV y (tN y (tN y s))).toNat (tV y (tN y (tN y (tN y s)))).toNat then .inl (3, tN y (tN y (tN y (tN y s)))) else
  if tWd y s wTri then .inr (sPut T (tV y (tN y s)).toNat (tV y (tN y (tN y s))).toNat (tV y (tN y (tN y (tN y s)))).toNat, tN y (tN y (tN y (tN y (tN y s))))) else
  match sDv V (tV y (tN y s)).toNat (tV y (tN y (tN y s))).toNat (tV y (tN y (tN y (tN y s)))).toNat V 0 T 0 with
  | none => .inl (3, tN y (tN y (tN y (tN y s))))
  | some q => .inr (q.1, tN y (tN y (tN y (tN y (tN y s)))))
/-- statements until the end -/
noncomputable def tRs (y : tY) (V : Nat) : Nat → sT → Nat → tEr ⊕ sT
  | 0, T, _ => .inr T
  | f + 1, T, s => if tK y s = 0 then .inr T else
    match tSt y V T s with
    | .inl e => .inl e
    | .inr q => tRs y V f q.1 q.2
noncomputable def tPt (y : tY) (s : Nat) : tEr ⊕ Nat :=
  if ¬ tWd y s wPts then .inl (1, s) else
  if ¬ tNum y (tN y s) 3 15 [] = 0 then .inl (tNum y (tN y s) 3 15 [], tN y s) else
  if ¬ tK y (tN y (tN y s)) = 3 then .inl (1, tN y (tN y s)) else .inr (tV y (tN y s)).toNat
noncomputable def tRd (y : tY) : tEr ⊕ (Nat × sT) :=
  match tPt y (tS y 0) with
  | .inl e => .inl e
  | .inr V => match tRs y V 601 sE (tN y (tN y (tN y (tS y 0)))) with
    | .inl e => .inl e
    | .inr T => .inr (V, T)
/-! what a system stays -/
theorem sOk_E {V : Nat} (h : 3 ≤ V) (h2 : V ≤ 15) : sOk V sE := ⟨h, h2, fun _ _ => Or.inl rfl⟩
theorem sOk_at {V : Nat} {T : sT} (h : sOk V T) {a b : Nat} {c : Int} (e : T a b = c) (hc : ¬ c = -1) : ∃ k : Nat, c = (k : Int) ∧ a < V ∧ b < V ∧ k < V ∧ a ≠ b ∧ a ≠ k ∧ b ≠ k ∧ T b a = (k : Int) ∧ T a k = (b : Int) ∧ T b k = (a : Int) ∧ T k a = (b : Int) ∧ T k b = (a : Int) := by
  rcases h.2.2 a b with g | ⟨k, g1, g2, g3, g4, g5, g6, g7, g8, g9⟩
  · rw [e] at g; exact absurd g hc
  · have hk : ∀ {p q r : Nat}, T p q = (r : Int) → T q p = (r : Int) ∧ T p r = (q : Int) := fun {p q r} e => by
      rcases h.2.2 p q with z | ⟨k, z1, -, -, -, -, -, -, z8, z9⟩
      · rw [e] at z; omega
      · rw [e] at z1
        have : r = k := by omega
        subst this
        exact ⟨z8, z9⟩
    rw [e] at g1
    subst g1
    have q1 := hk g8
    exact ⟨k, rfl, g2, g3, g4, g5, g6, g7, g8, g9, q1.2, (hk g9).1, (hk q1.2).1⟩
theorem sOk_put {V : Nat} {T : sT} {x y z : Nat} (h : sOk V T) (hx : x < V) (hy : y < V) (hz : z < V) (hxy : ¬ x = y) (hyz : ¬ y = z) (hxz : ¬ x = z) (hf : sFree T x y z) : sOk V (sPut T x y z) := by
  obtain ⟨f1, f2, f3⟩ := hf
  have sy : ∀ {p q : Nat}, T p q = -1 → T q p = -1 := fun {p q} e => by
    rcases h.2.2 q p with g | ⟨k, g1, g2, g3, g4, g5, g6, g7, g8, g9⟩
    · exact g
    · rw [e] at g8; omega
  have no : ∀ u v, sPr x y z u v → T u v = -1 := by
    intro u v ⟨g1, g2, g3⟩
    rcases g2 with rfl | rfl | rfl <;> rcases g3 with rfl | rfl | rfl <;> first | exact absurd rfl g1 | assumption | exact sy (by assumption)
  refine ⟨h.1, h.2.1, fun a b => ?_⟩
  unfold sPut
  by_cases hp : sPr x y z a b
  · rw [if_pos hp]
    obtain ⟨g1, g2, g3⟩ := hp
    refine Or.inr ⟨x + y + z - a - b, by omega, by omega, by omega, by omega, by omega, by omega, by omega, ?_, ?_⟩
    · rw [if_pos ⟨by omega, g3, g2⟩]; omega
    · rw [if_pos ⟨by omega, g2, by omega⟩]; omega
  · rw [if_neg hp]
    rcases h.2.2 a b with g | ⟨c, g1, g2, g3, g4, g5, g6, g7, g8, g9⟩
    · exact Or.inl g
    · refine Or.inr ⟨c, g1, g2, g3, g4, g5, g6, g7, ?_, ?_⟩
      · rw [if_neg (fun z => hp ⟨by omega, z.2.2, z.2.1⟩)]; exact g8
      · rw [if_neg (fun z => by have := no _ _ z; omega)]; exact g9
theorem sOk_take {V : Nat} {T : sT} {x y z : Nat} (h : sOk V T) (e : T x y = (z : Int)) : sOk V (sTake T x y z) := by
  obtain ⟨k, hk, x1, y1, z1, n1, n2, n3, t1, t2, t3, t4, t5⟩ := sOk_at h e (by omega)
  have hk : z = k := by omega
  subst hk
  have on : ∀ u v, sPr x y z u v → T u v = (x : Int) + y + z - u - v := by
    intro u v ⟨g1, g2, g3⟩
    rcases g2 with rfl | rfl | rfl <;> rcases g3 with rfl | rfl | rfl <;> first | exact absurd rfl g1 | omega
  refine ⟨h.1, h.2.1, fun a b => ?_⟩
  unfold sTake
  by_cases hp : sPr x y z a b
  · exact Or.inl (by rw [if_pos hp])
  · rw [if_neg hp]
    rcases h.2.2 a b with g | ⟨c, g1, g2, g3, g4, g5, g6, g7, g8, g9⟩
    · exact Or.inl g
    · refine Or.inr ⟨c, g1, g2, g3, g4, g5, g6, g7, ?_, ?_⟩
      · rw [if_neg (fun z => hp ⟨by omega, z.2.2, z.2.1⟩)]; exact g8
      · rw [if_neg (fun q => by
          have := on _ _ q
          obtain ⟨q1, q2, q3⟩ := q
          refine hp ⟨by omega, q2, ?_⟩
          have : (b : Int) = (x : Int) + y + z - a - c := by omega
          omega)]; exact g9
end
/-! ##### 19.m.002.26a ##### -/
section
/-! ===== the class's text: bytes, tokens ===== -/
theorem u80 : bUp 0 am_m80.1 = true := by decide +kernel
theorem u81 : bUp 0 am_m81.1 = true := by decide +kernel
theorem u82 : bUp 0 am_m82.1 = true := by decide +kernel
theorem u83 : bUp 0 am_m83.1 = true := by decide +kernel
theorem u84 : bUp 0 am_m84.1 = true := by decide +kernel
theorem u85 : bUp 0 am_m85.1 = true := by decide +kernel
theorem u86 : bUp 0 am_m86.1 = true := by decide +kernel
theorem u87 : bUp 0 am_m87.1 = true := by decide +kernel
section XE
variable {M : amM} {pc a b d : Nat} {L : List (Option Value)} {st : List Value} {hp : amH} {Q : xQ}
theorem xlen (q : Nat) {c t n : Nat} {ys : List bY} (hH : bHk 84 bTT hp) (h : xI M pc .arraylength a b) (e : q = pc + 1) (hc : c < 84) (hT : bTT c = some (t, n, ys)) (ht : 32 ≤ t ∧ t ≤ 35) (hn : n ≤ 100000) (hw : ∀ z : Int32, z.toInt = (n : Int) → xV d M q L (.int z :: st) hp Q) : xV d M pc L (.ref c :: st) hp Q := by
  obtain ⟨⟨t1, vs⟩, g1, g2, g3, -⟩ := bHk_at hH hc hT
  have g2 : t1 = t := g2
  subst g2
  have g3 : vs.length = n := g3
  refine xstep h (fun cl hl => ⟨cl, ?_, hl⟩) (hw (Int32.ofNat n) (Int32.toInt_ofNat_of_lt (by omega)))
  subst e
  simp [amDo, amStep, amScLen, amLen, g1, g3, ht]
theorem xbald (q n : Nat) {c len lo hi : Nat} {x : Int32} (hH : bHk 84 bTT hp) (h : xI M pc .baload a b) (e : q = pc + 1) (hq : c < 84) (hT : bTT c = some (34, len, [.inl (lo, hi)])) (hn : x.toInt = (n : Int)) (hl : n < len) (hw : ∀ z : Int32, z.toInt = rN hp c n → xV d M q L (.int z :: st) hp Q) : xV d M pc L (.int x :: .ref c :: st) hp Q := by
  obtain ⟨vs, g1, g2, z, g3, g4, -⟩ := x_fI hH hq hT (f := n) (lo := lo) (hi := hi) rfl hl
  obtain ⟨e1, e2⟩ := rw_in (m := vs.length) hn g2
  refine xstep h (fun cl hl => ⟨cl, ?_, hl⟩) (hw z g4)
  subst e
  have g5 : vs.getD n .null = .int z := by rw [List.getD_eq_getElem?_getD, g3]; rfl
  simp only [amDo, amStep, amALd, g1, e1, e2, g5, amIsI, and_self, if_true, Option.map_some]
theorem xsubw (q : Nat) {x y : Int32} (h : xI M pc .isub a b) (e : q = pc + 1) (hw : ∀ z : Int32, z = x - y → xV d M q L (.int z :: st) hp Q) : xV d M pc L (.int y :: .int x :: st) hp Q := by
  refine xstep h (fun cl hl => ⟨cl, ?_, hl⟩) (hw (x - y) rfl)
  subst e
  simp [amDo, amStep, amII]
end XE
theorem m255 {x z : Int32} (h : z.toInt = 255) : (x &&& z).toInt = x.toInt % 256 := by
  have e : z = 255 := Int32.toInt_inj.mp h
  subst e
  have h2 : (x &&& 255).toInt = (x &&& 255).toBitVec.toInt := rfl
  have h3 : x.toInt = x.toBitVec.toInt := rfl
  rw [h2, h3, Int32.toBitVec_and]
  have h4 : (x.toBitVec &&& (255 : Int32).toBitVec).toNat = x.toBitVec.toNat % 256 := by
    rw [BitVec.toNat_and]
    exact Nat.and_two_pow_sub_one_eq_mod x.toBitVec.toNat 8
  have h5 := x.toBitVec.isLt
  rw [BitVec.toInt_eq_toNat_cond, BitVec.toInt_eq_toNat_cond, h4]
  split <;> split <;> omega
/-- the class's bytes -/
noncomputable def cB (hp : amH) : tY := fun k => if (k : Int) < rN hp 1 0 then rN hp 2 k % 256 else -1
noncomputable def rB (hp : amH) : tY := fun k => if (k : Int) < rN hp 66 21 then rN hp 80 k else -1
theorem b1_0 {hp : amH} (hH : bHk 84 bTT hp) : 0 ≤ rN hp 1 0 ∧ rN hp 1 0 ≤ 600 := by
  have := rb_c hH (c := 1) (f := 0) (by decide) rfl rfl (by decide)
  omega
theorem cB_ok {hp : amH} (hH : bHk 84 bTT hp) : tOk (rN hp 1 0).toNat (cB hp) := by
  have b := b1_0 hH
  refine ⟨by omega, fun k hk => ?_, fun k hk => ?_⟩
  · unfold cB
    rw [if_pos (by omega)]
    omega
  · unfold cB
    rw [if_neg (by omega)]
theorem cB_U {hp hp1 : amH} {j : Nat} {m : Int} (U : rU hp hp1 1 j m) (hj : ¬ j = 0) : cB hp1 = cB hp := by
  funext k
  unfold cB
  rw [rU_ne U (by first | decide | exact (fun z => absurd z.1 (by decide)) | omega), rU_ne U (by first | decide | exact (fun z => absurd z.1 (by decide)) | omega)]
noncomputable def wCt : List (Nat × Nat) := [(1, 4), (1, 5), (1, 6), (1, 7)]
theorem cB_F {hp hp1 : amH} (F : bFr wCt hp hp1) : cB hp1 = cB hp := by
  funext k
  unfold cB
  rw [show rN hp1 1 0 = rN hp 1 0 from r_fr F rfl, show rN hp1 2 k = rN hp 2 k from r_fr F rfl]
theorem k_cB {d : Nat} {hp : amH} {R : xQ} {k : Int32} {y : tY} {q : Nat} (hH : bHk 84 bTT hp) (hY : cB hp = y) (hk : k.toInt = (q : Int)) (hR : ∀ z : Int32, z.toInt = y q → R (.inl (some (.int z))) hp) : xK d 85 [.ref 1, .int k] hp R := by
  refine xin (M := am_m85) rfl rfl rfl ?_
  subst hY
  have b1 := b1_0 hH
  refine xild 1 ⟨u85, _, rfl⟩ rfl rfl ?_
  refine xif_lt 4 ⟨u85, _, rfl⟩ rfl (fun c1 => ?_) (fun c1 => ?_)
  · omega
  · refine xild 5 ⟨u85, _, rfl⟩ rfl rfl ?_
    refine xald 6 ⟨u85, _, rfl⟩ rfl rfl ?_
    refine xgetC 9 hH ⟨u85, _, rfl⟩ rfl (by decide) (by decide) rfl rfl (by decide) (fun z6 h6 => ?_)
    refine xcmp_ge 12 ⟨u85, _, rfl⟩ rfl (fun c9 => ?_) (fun c9 => ?_)
    · refine xcst 35 (-1) ⟨u85, _, rfl⟩ rfl (by decide) (fun z34 h34 => ?_)
      exact xret ⟨u85, _, rfl⟩ rfl (hR _ (by unfold cB; rw [if_neg (by omega)]; exact h34))
    · refine xild 13 ⟨u85, _, rfl⟩ rfl rfl ?_
      refine xald 14 ⟨u85, _, rfl⟩ rfl rfl ?_
      refine xgetD 17 (2) hH ⟨u85, _, rfl⟩ rfl (by decide) (by decide) rfl rfl (by decide) ?_
      refine xlen 18 hH ⟨u85, _, rfl⟩ rfl (by decide) rfl (by decide) (by decide) (fun z17 h17 => ?_)
      refine xcmp_ge 21 ⟨u85, _, rfl⟩ rfl (fun c18 => ?_) (fun c18 => ?_)
      · omega
      · refine xald 22 ⟨u85, _, rfl⟩ rfl rfl ?_
        refine xgetD 25 (2) hH ⟨u85, _, rfl⟩ rfl (by decide) (by decide) rfl rfl (by decide) ?_
        refine xild 26 ⟨u85, _, rfl⟩ rfl rfl ?_
        refine xbald 27 (k).toInt.toNat hH ⟨u85, _, rfl⟩ rfl (by decide) rfl (by omega) (by omega) (fun z26 h26 => ?_)
        refine xsip 30 (255) ⟨u85, _, rfl⟩ rfl (by decide) (fun z27 h27 => ?_)
        refine xand 31 ⟨u85, _, rfl⟩ rfl ?_
        refine xgoto ⟨u85, _, rfl⟩ ?_
        exact xret ⟨u85, _, rfl⟩ rfl (hR _ (by unfold cB; rw [if_pos (by omega), ← show k.toInt.toNat = q by omega, ← h26]; exact m255 h27))
theorem k_let {d : Nat} {hp : amH} {R : xQ} {c : Int32} {y : tY} {q : Nat} (hc : c.toInt = y q) (hR : ∀ z : Int32, ((z.toInt = 1 ∧ tLt y q = true) ∨ (z.toInt = 0 ∧ tLt y q = false)) → R (.inl (some (.int z))) hp) : xK d 86 [.int c] hp R := by
  refine xin (M := am_m86) rfl rfl rfl ?_
  refine xild 1 ⟨u86, _, rfl⟩ rfl rfl ?_
  refine xbip 3 (97) ⟨u86, _, rfl⟩ rfl (by decide) (fun z1 h1 => ?_)
  refine xcmp_lt 6 ⟨u86, _, rfl⟩ rfl (fun c3 => ?_) (fun c3 => ?_)
  · refine xcst 17 (0) ⟨u86, _, rfl⟩ rfl (by decide) (fun z16 h16 => ?_)
    exact xretB ⟨u86, _, rfl⟩ rfl (by omega) (hR _ (Or.inr ⟨by omega, decide_eq_false (by omega)⟩))
  · refine xild 7 ⟨u86, _, rfl⟩ rfl rfl ?_
    refine xbip 9 (122) ⟨u86, _, rfl⟩ rfl (by decide) (fun z7 h7 => ?_)
    refine xcmp_gt 12 ⟨u86, _, rfl⟩ rfl (fun c9 => ?_) (fun c9 => ?_)
    · refine xcst 17 (0) ⟨u86, _, rfl⟩ rfl (by decide) (fun z16 h16 => ?_)
      exact xretB ⟨u86, _, rfl⟩ rfl (by omega) (hR _ (Or.inr ⟨by omega, decide_eq_false (by omega)⟩))
    · refine xcst 13 (1) ⟨u86, _, rfl⟩ rfl (by decide) (fun z12 h12 => ?_)
      refine xgoto ⟨u86, _, rfl⟩ ?_
      exact xretB ⟨u86, _, rfl⟩ rfl (by omega) (hR _ (Or.inl ⟨by omega, decide_eq_true (by omega)⟩))
theorem k_dig {d : Nat} {hp : amH} {R : xQ} {c : Int32} {y : tY} {q : Nat} (hc : c.toInt = y q) (hR : ∀ z : Int32, ((z.toInt = 1 ∧ tDg y q = true) ∨ (z.toInt = 0 ∧ tDg y q = false)) → R (.inl (some (.int z))) hp) : xK d 87 [.int c] hp R := by
  refine xin (M := am_m87) rfl rfl rfl ?_
  refine xild 1 ⟨u87, _, rfl⟩ rfl rfl ?_
  refine xbip 3 (48) ⟨u87, _, rfl⟩ rfl (by decide) (fun z1 h1 => ?_)
  refine xcmp_lt 6 ⟨u87, _, rfl⟩ rfl (fun c3 => ?_) (fun c3 => ?_)
  · refine xcst 17 (0) ⟨u87, _, rfl⟩ rfl (by decide) (fun z16 h16 => ?_)
    exact xretB ⟨u87, _, rfl⟩ rfl (by omega) (hR _ (Or.inr ⟨by omega, decide_eq_false (by omega)⟩))
  · refine xild 7 ⟨u87, _, rfl⟩ rfl rfl ?_
    refine xbip 9 (57) ⟨u87, _, rfl⟩ rfl (by decide) (fun z7 h7 => ?_)
    refine xcmp_gt 12 ⟨u87, _, rfl⟩ rfl (fun c9 => ?_) (fun c9 => ?_)
    · refine xcst 17 (0) ⟨u87, _, rfl⟩ rfl (by decide) (fun z16 h16 => ?_)
      exact xretB ⟨u87, _, rfl⟩ rfl (by omega) (hR _ (Or.inr ⟨by omega, decide_eq_false (by omega)⟩))
    · refine xcst 13 (1) ⟨u87, _, rfl⟩ rfl (by decide) (fun z12 h12 => ?_)
      refine xgoto ⟨u87, _, rfl⟩ ?_
      exact xretB ⟨u87, _, rfl⟩ rfl (by omega) (hR _ (Or.inl ⟨by omega, decide_eq_true (by omega)⟩))
/-- a word is read: on to its end -/
theorem l82 {d : Nat} {hp0 : amH} {R : xQ} {y : tY} {s e : Nat} (hok : tOk (rN hp0 1 0).toNat y) (he : tR (tLt y) 601 s = e)
    (hR : ∀ hp1, bHk 84 bTT hp1 → bFr wCt hp0 hp1 → rN hp1 1 4 = (e : Int) → rN hp1 1 5 = 1 → rN hp1 1 6 = (s : Int) → R (.inl none) hp1) :
    ∀ (jj q : Nat) (hp : amH), bHk 84 bTT hp → bFr wCt hp0 hp → cB hp = y → rN hp 1 4 = (q : Int) → rN hp 1 5 = 1 → rN hp 1 6 = (s : Int) → s ≤ q → (∀ k, s ≤ k → k < q → tLt y k = true) → (q : Int) + (jj : Int) = rN hp0 1 0 → xV (d + 1) am_m82 5 [some (.ref 1)] [] hp R := by
  intro jj
  induction jj using Nat.strongRecOn with
  | ind jj ih =>
    intro q hp hH hF Y h4 h5 h6 hsq hall hj
    have b0 := b1_0 hH
    have n0 : rN hp 1 0 = rN hp0 1 0 := r_fr hF rfl
    have fin : tLt y q = false → xV (d + 1) am_m82 43 [some (.ref 1)] [] hp R := fun g => by
      have : e = q := by rw [← he]; exact tR_eq 601 s q hsq (by omega) hall (fun _ => g)
      exact xretV ⟨u82, _, rfl⟩ rfl (hR hp hH hF (by omega) h5 h6)
    refine xald 6 ⟨u82, _, rfl⟩ rfl rfl ?_
    refine xgetC 9 hH ⟨u82, _, rfl⟩ rfl (by decide) (by decide) rfl rfl (by decide) (fun z6 h6 => ?_)
    refine xald 10 ⟨u82, _, rfl⟩ rfl rfl ?_
    refine xgetC 13 hH ⟨u82, _, rfl⟩ rfl (by decide) (by decide) rfl rfl (by decide) (fun z10 h10 => ?_)
    refine xcmp_ge 16 ⟨u82, _, rfl⟩ rfl (fun c13 => ?_) (fun c13 => ?_)
    · exact fin (by cases e9 : tLt y q; rfl; have := tLt_n hok q e9; omega)
    · refine xald 17 ⟨u82, _, rfl⟩ rfl rfl ?_
      refine xald 18 ⟨u82, _, rfl⟩ rfl rfl ?_
      refine xgetC 21 hH ⟨u82, _, rfl⟩ rfl (by decide) (by decide) rfl rfl (by decide) (fun z18 h18 => ?_)
      refine xcallC 24 (o := 1) [.int _] [] hH ⟨u82, _, rfl⟩ rfl rfl (by decide) rfl (by decide) rfl ⟨rfl, rfl, rfl, rfl⟩ rfl (k_cB hH Y (q := q) (by omega) (fun z21 h21 => ⟨_, rfl, ?_⟩))
      refine xcallS 27 [.int _] [] hH ⟨u82, _, rfl⟩ rfl rfl rfl rfl rfl (k_let (y := y) (q := q) (by omega) (fun z24 h24 => ⟨_, rfl, ?_⟩))
      refine xif_eq 30 ⟨u82, _, rfl⟩ rfl (fun c27 => ?_) (fun c27 => ?_)
      · exact fin (by rcases h24 with z | z; omega; exact z.2)
      · refine xald 31 ⟨u82, _, rfl⟩ rfl rfl ?_
        refine xdup 32 ⟨u82, _, rfl⟩ rfl rfl ?_
        refine xgetC 35 hH ⟨u82, _, rfl⟩ rfl (by decide) (by decide) rfl rfl (by decide) (fun z32 h32 => ?_)
        refine xcst 36 (1) ⟨u82, _, rfl⟩ rfl (by decide) (fun z35 h35 => ?_)
        refine xadd 37 _ ⟨u82, _, rfl⟩ rfl rfl (by omega) (by omega) (fun z36 h36 => ?_)
        refine xputC 40 hH ⟨u82, _, rfl⟩ rfl (by decide) (by decide) rfl rfl (by decide) ⟨rfl, rfl⟩ (by omega) (by omega) (fun hp37 hH37 U37 => ?_)
        have s37 := U37.1
        have n37_1_0 : rN hp37 (1) 0 = rN hp (1) 0 := rU_ne U37 (by first | decide | exact (fun z => absurd z.1 (by decide)) | omega)
        have n37_1_5 : rN hp37 (1) 5 = rN hp (1) 5 := rU_ne U37 (by first | decide | exact (fun z => absurd z.1 (by decide)) | omega)
        have n37_1_6 : rN hp37 (1) 6 = rN hp (1) 6 := rU_ne U37 (by first | decide | exact (fun z => absurd z.1 (by decide)) | omega)
        have n37_1_7 : rN hp37 (1) 7 = rN hp (1) 7 := rU_ne U37 (by first | decide | exact (fun z => absurd z.1 (by decide)) | omega)
        refine xgoto ⟨u82, _, rfl⟩ ?_
        exact ih (jj - 1) (by omega) (q + 1) hp37 hH37 (hF.trans (rU_fr U37 (by decide))) ((cB_U U37 (by decide)).trans Y) (by omega) (by omega) (by omega) (by omega) (fun k k1 k2 => by rcases Nat.lt_or_ge k q with g | g; exact hall k k1 g; rw [show k = q by omega]; rcases h24 with z | z; exact z.2; omega) (by omega)
theorem k_rw {d : Nat} {hp : amH} {R : xQ} {y : tY} {s : Nat} (hH : bHk 84 bTT hp) (Y : cB hp = y) (hok : tOk (rN hp 1 0).toNat y) (h4 : rN hp 1 4 = (s : Int)) (h6 : rN hp 1 6 = (s : Int)) (hs : (s : Int) ≤ rN hp 1 0)
    (hR : ∀ hp1, bHk 84 bTT hp1 → bFr wCt hp hp1 → rN hp1 1 4 = ((tR (tLt y) 601 s : Nat) : Int) → rN hp1 1 5 = 1 → rN hp1 1 6 = (s : Int) → R (.inl none) hp1) : xK (d + 1) 82 [.ref 1] hp R := by
  refine xin (M := am_m82) rfl rfl rfl ?_
  refine xald 1 ⟨u82, _, rfl⟩ rfl rfl ?_
  refine xcst 2 (1) ⟨u82, _, rfl⟩ rfl (by decide) (fun z1 h1 => ?_)
  refine xputC 5 hH ⟨u82, _, rfl⟩ rfl (by decide) (by decide) rfl rfl (by decide) ⟨rfl, rfl⟩ (by omega) (by omega) (fun hp2 hH2 U2 => ?_)
  have s2 := U2.1
  have n2_1_0 : rN hp2 (1) 0 = rN hp (1) 0 := rU_ne U2 (by first | decide | exact (fun z => absurd z.1 (by decide)) | omega)
  have n2_1_4 : rN hp2 (1) 4 = rN hp (1) 4 := rU_ne U2 (by first | decide | exact (fun z => absurd z.1 (by decide)) | omega)
  have n2_1_6 : rN hp2 (1) 6 = rN hp (1) 6 := rU_ne U2 (by first | decide | exact (fun z => absurd z.1 (by decide)) | omega)
  have n2_1_7 : rN hp2 (1) 7 = rN hp (1) 7 := rU_ne U2 (by first | decide | exact (fun z => absurd z.1 (by decide)) | omega)
  exact l82 hok rfl hR (rN hp 1 0 - s).toNat s hp2 hH2 (rU_fr U2 (by decide)) ((cB_U U2 (by decide)).trans Y) (by omega) (by omega) (by omega) (Nat.le_refl _) (fun k k1 k2 => by omega) (by omega)
end
