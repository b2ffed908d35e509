/-! ===== runs that count throws: rules ===== -/
abbrev cQ : Type := (Option Value ⊕ Nat) → amH → Nat → Nat → Prop
def cV (sc : Option (List Int32)) (d : Nat) (M : amM) (pc : Nat) (L : List (Option Value)) (st : List Value) (hp : amH) (Q : cQ) : Prop := ∀ cl, lk cl L → ∀ kc ks, ∃ f y hp1 mc ms, amRun amGG sc f d M (amSeek M.1 pc) pc cl st hp kc ks = some (y, hp1, kc + mc, ks + ms) ∧ Q y hp1 mc ms
def cK (d k : Nat) (av : List Value) (hp : amH) (R : cQ) : Prop := ∃ N, amGG k = some N ∧ ∃ f y hp1 mc ms, amRun amGG none f d N N.1 0 (lv_args 0 av) [] hp 0 0 = some (y, hp1, mc, ms) ∧ R y hp1 mc ms
theorem cmono {sc : Option (List Int32)} {d : Nat} {M : amM} {pc : Nat} {L : List (Option Value)} {st : List Value} {hp : amH} {Q Q1 : cQ} (hw : cV sc d M pc L st hp Q) (h : ∀ y hp1 mc ms, Q y hp1 mc ms → Q1 y hp1 mc ms) : cV sc d M pc L st hp Q1 := by
  intro cl hl kc ks
  obtain ⟨f, y, hp1, mc, ms, g1, g2⟩ := hw cl hl kc ks
  exact ⟨f, y, hp1, mc, ms, g1, h _ _ _ _ g2⟩
theorem cstep {sc : Option (List Int32)} {M : amM} {pc : Nat} {i : Instr} {a b d q : Nat} {L L1 : List (Option Value)} {st st1 : List Value} {hp hp1 : amH} {Q : cQ} (h : xI M pc i a b)
    (hs : ∀ cl, lk cl L → ∃ cl1, amDo amGG M sc i a b pc cl st hp = some (.inl ((q, cl1, st1, hp1), 0, 0)) ∧ lk cl1 L1) (hw : cV sc d M q L1 st1 hp1 Q) : cV sc d M pc L st hp Q := by
  intro cl hl kc ks
  obtain ⟨hu, r, hr⟩ := h
  obtain ⟨cl1, e, hl1⟩ := hs cl hl
  obtain ⟨f, y, hp2, mc, ms, g1, g2⟩ := hw cl1 hl1 kc ks
  refine ⟨f + 1, y, hp2, mc, ms, ?_, g2⟩
  rw [hr]
  simp only [amRun, if_true, e, Nat.add_zero]
  rw [bUp_next hu (xI_suf hr)]
  exact g1
/-- filtered locals -/
theorem fg_get {p : Nat × Value → Bool} {j : Nat} {w : Value} (hp : p (j, w) = true) : ∀ {cl : amL}, amGet cl j = some w → amGet (cl.filter p) j = some w
  | [], h => by cases h
  | q :: r, h => by
    unfold amGet at h
    by_cases e : q.1 = j
    · rw [if_pos e] at h
      cases h
      subst e
      rw [List.filter_cons_of_pos (by exact hp)]
      unfold amGet
      rw [if_pos rfl]
    · rw [if_neg e] at h
      have ih := fg_get hp h
      by_cases hq : p q = true
      · rw [List.filter_cons_of_pos hq]
        unfold amGet
        rw [if_neg e]
        exact ih
      · rw [List.filter_cons_of_neg hq]
        exact ih
theorem fg_ok {n : Nat} {p : Nat × Value → Bool} {cl : amL} (h : amOkL n cl = true) : amOkL n (cl.filter p) = true := by
  unfold amOkL at *
  rw [List.all_eq_true] at h ⊢
  exact fun x hx => h x (List.mem_filter.mp hx).1
theorem lAt_len : ∀ {L : List (Option Value)} {k : Nat} {v : Value}, lAt L k = some (some v) → k < L.length
  | [], _, _, h => by cases h
  | _ :: _, 0, _, _ => Nat.succ_pos _
  | _ :: r, k + 1, v, h => Nat.succ_lt_succ (lAt_len (L := r) (k := k) h)
theorem lk_up1 {cl : amL} {L : List (Option Value)} (h : lk cl L) {k : Nat} {v : Value} (hk : Nat.ble L.length k = true) (hv : amOk 84 v = true) : lk (amSet1 cl k v) L := by
  have hk := Nat.le_of_ble_eq_true hk
  refine ⟨?_, fun j u hu => ?_⟩
  · unfold amSet1
    unfold amOkL
    rw [List.all_cons, hv]
    exact fg_ok h.1
  · obtain ⟨g1, g2⟩ := h.2 j u hu
    have hj := lAt_len hu
    refine ⟨g1, ?_⟩
    unfold amSet1
    unfold amGet
    rw [if_neg (show ¬ k = j by omega)]
    refine fg_get ?_ g2
    dsimp only
    rw [g1]
    have : (j == k) = false := by rw [beq_eq_false_iff_ne]; omega
    rw [this]
    simp
theorem lk_up2 {cl : amL} {L : List (Option Value)} (h : lk cl L) {k : Nat} {v : Value} (hk : Nat.ble L.length k = true) (hv : amOk 84 v = true) : lk (amSet2 cl k v) L := by
  have hk := Nat.le_of_ble_eq_true hk
  refine ⟨?_, fun j u hu => ?_⟩
  · unfold amSet2
    unfold amOkL
    rw [List.all_cons, hv]
    exact fg_ok h.1
  · obtain ⟨g1, g2⟩ := h.2 j u hu
    have hj := lAt_len hu
    refine ⟨g1, ?_⟩
    unfold amSet2
    unfold amGet
    rw [if_neg (show ¬ k = j by omega)]
    refine fg_get ?_ g2
    dsimp only
    rw [g1]
    have e1 : (j == k) = false := by rw [beq_eq_false_iff_ne]; omega
    have e2 : (j == k + 1) = false := by rw [beq_eq_false_iff_ne]; omega
    rw [e1, e2]
    simp
theorem lk_none {cl : amL} (h : amOkL 84 cl = true) : lk cl [] := ⟨h, fun k v e => by cases e⟩
section CR
variable {sc : Option (List Int32)} {M : amM} {pc a b d : Nat} {L : List (Option Value)} {st : List Value} {hp : amH} {Q : cQ}
theorem cild (q : Nat) {n : Fin 4} {x : Int32} (h : xI M pc (.iload_n n) a b) (e : q = pc + 1) (l : lAt L (n : Nat) = some (some (.int x))) (hw : cV sc d M q L (.int x :: st) hp Q) : cV sc d M pc L st hp Q := by
  refine cstep h (fun cl hl => ⟨cl, ?_, hl⟩) hw
  have hg := (hl.2 _ _ l).2
  subst e
  simp [amDo, amStep, amLd, hg, isI_int]
theorem cild2 (q : Nat) {k : Nat} {x : Int32} (h : xI M pc (.iload k) a b) (e : q = pc + 2) (l : lAt L k = some (some (.int x))) (hw : cV sc d M q L (.int x :: st) hp Q) : cV sc d M pc L st hp Q := by
  refine cstep h (fun cl hl => ⟨cl, ?_, hl⟩) hw
  have hg := (hl.2 _ _ l).2
  subst e
  simp [amDo, amStep, amLd, hg, isI_int]
theorem cald (q : Nat) {n : Fin 4} {x : Nat} (h : xI M pc (.aload_n n) a b) (e : q = pc + 1) (l : lAt L (n : Nat) = some (some (.ref x))) (hw : cV sc d M q L (.ref x :: st) hp Q) : cV sc d M pc L st hp Q := by
  refine cstep h (fun cl hl => ⟨cl, ?_, hl⟩) hw
  have hg := (hl.2 _ _ l).2
  subst e
  simp [amDo, amStep, amLd, hg, isA_ref]
theorem cald2 (q : Nat) {k : Nat} {x : Nat} (h : xI M pc (.aload k) a b) (e : q = pc + 2) (l : lAt L k = some (some (.ref x))) (hw : cV sc d M q L (.ref x :: st) hp Q) : cV sc d M pc L st hp Q := by
  refine cstep h (fun cl hl => ⟨cl, ?_, hl⟩) hw
  have hg := (hl.2 _ _ l).2
  subst e
  simp [amDo, amStep, amLd, hg, isA_ref]
theorem ccst (q : Nat) (m : Int) {n : Int} (h : xI M pc (.iconst n) a b) (e : q = pc + 1) (hm : (Int32.ofInt n).toInt = m) (hw : ∀ z : Int32, z.toInt = m → cV sc d M q L (.int z :: st) hp Q) : cV sc d M pc L st hp Q := by
  refine cstep h (fun cl hl => ⟨cl, ?_, hl⟩) (hw _ hm)
  subst e
  simp [amDo, amStep]
theorem cbip (q : Nat) (m : Int) {n : Int} (h : xI M pc (.bipush n) a b) (e : q = pc + 2) (hm : (Int8.ofInt n).toInt32.toInt = m) (hw : ∀ z : Int32, z.toInt = m → cV sc d M q L (.int z :: st) hp Q) : cV sc d M pc L st hp Q := by
  refine cstep h (fun cl hl => ⟨cl, ?_, hl⟩) (hw _ hm)
  subst e
  simp [amDo, amStep]
theorem cadd (q : Nat) (m : Int) {x y : Int32} (h : xI M pc .iadd a b) (e : q = pc + 1) (hm : x.toInt + y.toInt = m) (h1 : -2147483648 ≤ m) (h2 : m ≤ 2147483647) (hw : ∀ z : Int32, z.toInt = m → cV sc d M q L (.int z :: st) hp Q) : cV sc d M pc L (.int y :: .int x :: st) hp Q := by
  subst hm
  refine cstep h (fun cl hl => ⟨cl, ?_, hl⟩) (hw (x + y) (by rw [Int32.toInt_add, aBmod h1 h2]))
  subst e
  simp [amDo, amStep, amII]
theorem csub (q : Nat) (m : Int) {x y : Int32} (h : xI M pc .isub a b) (e : q = pc + 1) (hm : x.toInt - y.toInt = m) (h1 : -2147483648 ≤ m) (h2 : m ≤ 2147483647) (hw : ∀ z : Int32, z.toInt = m → cV sc d M q L (.int z :: st) hp Q) : cV sc d M pc L (.int y :: .int x :: st) hp Q := by
  subst hm
  refine cstep h (fun cl hl => ⟨cl, ?_, hl⟩) (hw (x - y) (by rw [Int32.toInt_sub, aBmod h1 h2]))
  subst e
  simp [amDo, amStep, amII]
theorem cand (q : Nat) {x y : Int32} (h : xI M pc .iand a b) (e : q = pc + 1) (hw : cV sc d M q L (.int (x &&& y) :: st) hp Q) : cV sc d M pc L (.int y :: .int x :: st) hp Q := by
  refine cstep h (fun cl hl => ⟨cl, ?_, hl⟩) hw
  subst e
  simp [amDo, amStep, amII]
theorem cpop (q : Nat) {v : Value} (h : xI M pc .pop a b) (e : q = pc + 1) (hv : v.category = 1) (hw : cV sc d M q L st hp Q) : cV sc d M pc L (v :: st) hp Q := by
  refine cstep h (fun cl hl => ⟨cl, ?_, hl⟩) hw
  subst e
  simp [amDo, amStep, hv]
theorem cgoto {i : Int} (h : xI M pc (.goto i) a b) (hw : cV sc d M a L st hp Q) : cV sc d M pc L st hp Q := by
  refine cstep h (fun cl hl => ⟨cl, ?_, hl⟩) hw
  simp [amDo, amStep]
theorem cinc (q : Nat) (m : Int) {k : Nat} {n : Int} {x : Int32} (h : xI M pc (.iinc k n) a b) (e : q = pc + 3) (hk : Nat.ble (k + 1) M.2.1 = true) (l : lAt L k = some (some (.int x))) (hm : (Int32.ofInt n).toInt = m) (h1 : -2147483648 ≤ x.toInt + m) (h2 : x.toInt + m ≤ 2147483647) (hw : ∀ z : Int32, z.toInt = x.toInt + m → cV sc d M q (lSet L k (.int z)) st hp Q) : cV sc d M pc L st hp Q := by
  have hk : k < M.2.1 := Nat.le_of_ble_eq_true hk
  refine cstep h (fun cl hl => ⟨amSet1 cl k (.int (x + Int32.ofInt n)), ?_, lk_set hl k _⟩) (hw _ (by rw [Int32.toInt_add, hm, aBmod h1 h2]))
  have hg := (hl.2 k _ l).2
  subst e
  simp [amDo, amStep, amInc, hg, hk]
theorem ci2l (q : Nat) {x : Int32} (h : xI M pc .i2l a b) (e : q = pc + 1) (hw : ∀ z : Int64, cV sc d M q L (.long z :: st) hp Q) : cV sc d M pc L (.int x :: st) hp Q := by
  refine cstep h (fun cl hl => ⟨cl, ?_, hl⟩) (hw x.toInt64)
  subst e
  simp [amDo, amStep, amI]
theorem cf2d (q : Nat) {x : UInt32} (h : xI M pc .f2d a b) (e : q = pc + 1) (hx : FP.Core.decode FP.Core.b32 x.toNat ≠ .nan) (hw : ∀ z : UInt64, cV sc d M q L (.double z :: st) hp Q) : cV sc d M pc L (.float x :: st) hp Q := by
  refine cstep h (fun cl hl => ⟨cl, ?_, hl⟩) (hw (FP.f2d x))
  subst e
  simp only [amDo, amStep]
  rw [if_pos (fl_f2d hx)]
  rfl
/-- what is kept above the known locals -/
theorem cistU (q : Nat) {k : Nat} {x : Int32} (h : xI M pc (.istore k) a b) (e : q = pc + 2) (hk : Nat.ble L.length k = true) (hm : Nat.ble (k + 1) M.2.1 = true) (hw : cV sc d M q L st hp Q) : cV sc d M pc L (.int x :: st) hp Q := by
  have hm : k < M.2.1 := Nat.le_of_ble_eq_true hm
  refine cstep h (fun cl hl => ⟨amSet1 cl k (.int x), ?_, lk_up1 hl hk rfl⟩) hw
  subst e
  simp [amDo, amStep, amSt1, isI_int, hm]
theorem clstU (q : Nat) {k : Nat} {x : Int64} (h : xI M pc (.lstore k) a b) (e : q = pc + 2) (hk : Nat.ble L.length k = true) (hm : Nat.ble (k + 2) M.2.1 = true) (hw : cV sc d M q L st hp Q) : cV sc d M pc L (.long x :: st) hp Q := by
  have hm : k + 1 < M.2.1 := Nat.le_of_ble_eq_true hm
  refine cstep h (fun cl hl => ⟨amSet2 cl k (.long x), ?_, lk_up2 hl hk rfl⟩) hw
  subst e
  simp [amDo, amStep, amSt2, amIsJ, hm]
theorem cdstU (q : Nat) {k : Nat} {x : UInt64} (h : xI M pc (.dstore k) a b) (e : q = pc + 2) (hk : Nat.ble L.length k = true) (hm : Nat.ble (k + 2) M.2.1 = true) (hw : cV sc d M q L st hp Q) : cV sc d M pc L (.double x :: st) hp Q := by
  have hm : k + 1 < M.2.1 := Nat.le_of_ble_eq_true hm
  refine cstep h (fun cl hl => ⟨amSet2 cl k (.double x), ?_, lk_up2 hl hk rfl⟩) hw
  subst e
  simp [amDo, amStep, amSt2, amIsD, hm]
/-- a long kept in the one cell for it -/
theorem clast (q : Nat) {x : Int32} {v : Int64} (hH : bHk 84 bTT hp) (h : xI M pc .lastore a b) (e : q = pc + 1) (hx : x.toInt = 0) (hw : ∀ hp1, bHk 84 bTT hp1 → bFr [(83, 999)] hp hp1 → cV sc d M q L st hp1 Q) : cV sc d M pc L (.long v :: .int x :: .ref 83 :: st) hp Q := by
  obtain ⟨⟨t1, vs⟩, g1, g2⟩ := bHk_at hH (i := 83) (by decide) (D := (33, 1, [.inr (.inl 1)])) rfl
  have t33 : t1 = 33 := g2.1
  subst t33
  have g3 : vs.length = 1 := g2.2.1
  obtain ⟨e1, e2⟩ := rw_in (i := x) (n := 0) (m := vs.length) (by omega) (by omega)
  refine cstep h (fun cl hl => ⟨cl, ?_, hl⟩) (hw (hp.set 83 (33, vs.set 0 (.long v))) (bHk_set hH rfl (bHc_set g2 (y := .inr (.inl 1)) rfl (Or.inl ⟨rfl, _, rfl⟩))) (bFr_set (d := (33, vs)) g1 rfl))
  subst e
  simp only [amDo, amStep, amASt, g1, e1, e2, amIsJ, and_self, if_true, id, Option.map_some]
theorem cif (q : Nat) {i : Int} {x : Int32} (h : xI M pc (.ifCond .eq i) a b) (e : q = pc + 3) (hw1 : cV sc d M a L st hp Q) (hw2 : cV sc d M q L st hp Q) : cV sc d M pc L (.int x :: st) hp Q := by
  subst e
  cases hc : amIfP .eq x
  · refine cstep h (fun cl hl => ⟨cl, ?_, hl⟩) hw2
    simp [amDo, amStep, amIf, hc]
  · refine cstep h (fun cl hl => ⟨cl, ?_, hl⟩) hw1
    simp [amDo, amStep, amIf, hc]
theorem ccmp (q : Nat) {c : Jvm.ClassFile.Cond} {i : Int} {x y : Int32} (h : xI M pc (.if_icmp c i) a b) (e : q = pc + 3) (hw1 : amCmpP c x y = true → cV sc d M a L st hp Q) (hw2 : amCmpP c x y = false → cV sc d M q L st hp Q) : cV sc d M pc L (.int y :: .int x :: st) hp Q := by
  subst e
  cases hc : amCmpP c x y
  · refine cstep h (fun cl hl => ⟨cl, ?_, hl⟩) (hw2 hc)
    simp [amDo, amStep, amCmp, hc]
  · refine cstep h (fun cl hl => ⟨cl, ?_, hl⟩) (hw1 hc)
    simp [amDo, amStep, amCmp, hc]
theorem ccmp_gt (q : Nat) {i : Int} {x y : Int32} (h : xI M pc (.if_icmp .gt i) a b) (e : q = pc + 3) (hw1 : y.toInt < x.toInt → cV sc d M a L st hp Q) (hw2 : ¬ y.toInt < x.toInt → cV sc d M q L st hp Q) : cV sc d M pc L (.int y :: .int x :: st) hp Q :=
  have z := z_cmp (c := .gt) (p := fun x y => y < x) (fun x y => by simp only [amCmpP, decide_eq_true_eq]; exact Int32.lt_iff_toInt_lt) (x := x) (y := y)
  ccmp q h e (fun u => hw1 (z.1 u)) (fun u => hw2 (z.2 u))
theorem ccmp_eq (q : Nat) {i : Int} {x y : Int32} (h : xI M pc (.if_icmp .eq i) a b) (e : q = pc + 3) (hw1 : x.toInt = y.toInt → cV sc d M a L st hp Q) (hw2 : ¬ x.toInt = y.toInt → cV sc d M q L st hp Q) : cV sc d M pc L (.int y :: .int x :: st) hp Q :=
  have z := z_cmp (c := .eq) (p := fun x y => x = y) (fun x y => by simp only [amCmpP, decide_eq_true_eq]; exact x_eq) (x := x) (y := y)
  ccmp q h e (fun u => hw1 (z.1 u)) (fun u => hw2 (z.2 u))
theorem ctab (q : Nat) {dd lo hi : Int} {offs : Array Int} {x : Int32} {o : Int} (h : xI M pc (.tableswitch dd lo hi offs) a b) (ho : amOff x.toInt dd lo hi offs = some o) (e : (q : Int) = (pc : Int) + o) (hw : cV sc d M q L st hp Q) : cV sc d M pc L (.int x :: st) hp Q := by
  refine cstep h (fun cl hl => ⟨cl, ?_, hl⟩) hw
  simp only [amDo, amStep, amTbl, ho]
  rw [if_pos (by omega), ← e]
  rfl
theorem cret {x : Int32} (h : xI M pc .ireturn a b) (hr : M.2.2.2.2.1 = some .int ∨ (M.2.2.2.2.1 = some .boolean ∧ x = 1)) (hQ : Q (.inl (some (.int x))) hp 0 0) : cV sc d M pc L [.int x] hp Q := by
  intro cl hl kc ks
  obtain ⟨hu, r, hr2⟩ := h
  rw [hr2]
  refine ⟨1, .inl (some (.int x)), hp, 0, 0, ?_, hQ⟩
  have e : amDo amGG M sc .ireturn a b pc cl [.int x] hp = some (.inr (.inl (some (.int x)))) := by
    rcases hr with hr | ⟨hr, rfl⟩
    · simp [amDo, amRetV, hr, narrow]
    · simp [amDo, amRetV, hr, narrow]
  simp only [amRun, if_true, e, Nat.add_zero]
end CR
/-- the script's words -/
theorem clen {l : List Int32} {M : amM} {pc a b d : Nat} {L : List (Option Value)} {st : List Value} {hp : amH} {Q : cQ} (q : Nat) (h : xI M pc .arraylength a b) (e : q = pc + 1) (hl9 : l.length ≤ 2147483647) (hw : ∀ z : Int32, z.toInt = (l.length : Int) → cV (some l) d M q L (.int z :: st) hp Q) : cV (some l) d M pc L (.ref amS :: st) hp Q := by
  refine cstep h (fun cl hl => ⟨cl, ?_, hl⟩) (hw (Int32.ofNat l.length) (Int32.toInt_ofNat_of_lt (by omega)))
  subst e
  simp [amDo, amStep, amScLen]
theorem cscl {l : List Int32} {M : amM} {pc a b d : Nat} {L : List (Option Value)} {st : List Value} {hp : amH} {Q : cQ} (q : Nat) {x : Int32} (h : xI M pc .iaload a b) (e : q = pc + 1) (h0 : 0 ≤ x.toInt) (h1 : x.toInt < (l.length : Int)) (hw : ∀ z : Int32, cV (some l) d M q L (.int z :: st) hp Q) : cV (some l) d M pc L (.int x :: .ref amS :: st) hp Q := by
  have e2 := (rw_in (i := x) (n := x.toInt.toNat) (m := l.length) (by omega) (by omega)).2
  refine cstep h (fun cl hl => ⟨cl, ?_, hl⟩) (hw (l.getD x.toNatClampNeg 0))
  subst e
  simp only [amDo, amStep, amSc]
  rw [if_pos ⟨trivial, e2⟩]
  rfl
/-- what a call may come to: an answer, or what is caught -/
theorem ccall {sc : Option (List Int32)} {M : amM} {pc b d q : Nat} {L : List (Option Value)} {hp : amH} {Q : cQ} {k kd t : Nat} {i : Instr} {N : amM} (av rest : List Value) {st : List Value} (hH : bHk 84 bTT hp) (h : xI M pc i k b) (hi : (∃ j, i = .invokevirtual j ∧ kd = 0 ∧ ¬ b = 7 ∧ ¬ b = 8) ∨ (∃ j, i = .invokestatic j ∧ kd = 1 ∧ ¬ b = 6)) (e : q = pc + 3) (hst : st = av.reverse ++ rest) (hN : amGG k = some N)
    (hc : N.2.2.1 = av.length ∧ Nat.ble ((av.reverse.map fun v => v.category).sum) N.2.1 = true ∧ Nat.ble ((rest.map fun v => v.category).sum) 8 = true) (hr : amOkS 84 rest = true) (hrec : amRecv kd N.2.2.2.2.2.2 hp av = true) (ht : M.2.2.2.2.2.1.length = t)
    (hk : cK d k av hp (fun y hp1 mc ms => (∃ v, y = .inl v ∧ cV sc (d + 1) M q L (v.toList ++ rest) hp1 (fun y2 hp2 mc2 ms2 => Q y2 hp2 (mc + mc2) (ms + ms2))) ∨ (∃ E h x to, y = .inr E ∧ amMay i b = true ∧ Nat.ble 1 t = true ∧ amHand M.2.2.2.2.2.1 pc E = some (h, x, to) ∧ cV sc (d + 1) M to [] [] hp1 (fun y2 hp2 mc2 ms2 => Q y2 hp2 (mc + mc2) (ms + ms2))))) : cV sc (d + 1) M pc L st hp Q := by
  intro cl hl kc ks
  obtain ⟨hu, r, hr2⟩ := h
  obtain ⟨N', hN', f1, y, hp1, mc, ms, hw1, hw2⟩ := hk
  rw [hN] at hN'
  cases hN'
  obtain ⟨c1, c3, c4⟩ := hc
  have c3 := Nat.le_of_ble_eq_true c3
  have c4 := Nat.le_of_ble_eq_true c4
  have hlen : av.reverse.length = N.2.2.1 := by rw [List.length_reverse, c1]
  have t1 : st.take N.2.2.1 = av.reverse := by rw [hst, ← hlen, List.take_left]
  have t2 : st.drop N.2.2.1 = rest := by rw [hst, ← hlen, List.drop_left]
  have hcall : amCall amGG kd k cl st hp = some (.inr (.inr (.inr (k, av, rest)))) := by
    unfold amCall
    rw [hN]
    dsimp only
    rw [t1, t2, List.reverse_reverse, if_pos]
    refine ⟨by rw [hst, List.length_append]; omega, c3, ?_, c4⟩
    rw [hH.1, hl.1, hr, hrec]
    rfl
  have hdo : amDo amGG M sc i k b pc cl st hp = some (.inr (.inr (.inr (k, av, rest)))) := by
    rcases hi with ⟨j, rfl, rfl, z1, z2⟩ | ⟨j, rfl, rfl, z1⟩
    · simp only [amDo, z1, z2, if_false]; exact hcall
    · simp only [amDo, z1, if_false]; exact hcall
  rw [hr2]
  rcases hw2 with ⟨v, rfl, hv⟩ | ⟨E, hh, x, to, rfl, m1, m2, m3, hv⟩
  · obtain ⟨f2, y2, hp2, mc2, ms2, g1, g2⟩ := hv cl hl (kc + mc) (ks + ms)
    refine ⟨max f1 f2 + 1, y2, hp2, mc + mc2, ms + ms2, ?_, g2⟩
    have w1 := amRun_more _ _ _ _ _ _ _ _ _ _ _ _ hw1 (max f1 f2) d (Nat.le_max_left _ _) (Nat.le_refl _)
    have w2 := amRun_more _ _ _ _ _ _ _ _ _ _ _ _ g1 (max f1 f2) (d + 1) (Nat.le_max_right _ _) (Nat.le_refl _)
    simp only [amRun, if_true, hdo, hN, w1]
    rw [bUp_next hu (xI_suf hr2), ← e, w2, Nat.add_assoc, Nat.add_assoc]
  · obtain ⟨f2, y2, hp2, mc2, ms2, g1, g2⟩ := hv (amDrop cl x) (lk_none (fg_ok hl.1)) (kc + mc) (ks + ms)
    refine ⟨max f1 f2 + 1, y2, hp2, mc + mc2, ms + ms2, ?_, g2⟩
    have w1 := amRun_more _ _ _ _ _ _ _ _ _ _ _ _ hw1 (max f1 f2) d (Nat.le_max_left _ _) (Nat.le_refl _)
    have w2 := amRun_more _ _ _ _ _ _ _ _ _ _ _ _ g1 (max f1 f2) (d + 1) (Nat.le_max_right _ _) (Nat.le_refl _)
    have m4 : ¬ M.2.2.2.2.2.1 = [] := fun z => by
      have := Nat.le_of_ble_eq_true m2
      rw [← ht, z] at this
      exact absurd this (by decide)
    simp only [amRun, if_true, hdo, hN, w1, m1, m3, m4, if_false, Bool.true_eq_false]
    rw [w2, Nat.add_assoc, Nat.add_assoc]
theorem cin {d k : Nat} {M : amM} {av : List Value} {hp : amH} {R : cQ} (hM : amGG k = some M) (h0 : amSeek M.1 0 = M.1) (ha : xAv av = true) (hw : cV none d M 0 (av.map some) [] hp R) : cK d k av hp R := by
  refine ⟨M, hM, ?_⟩
  have hl : lk (lv_args 0 av) (av.map some) := ⟨xAv_ok av 0 ha, fun k v e => by
    have := xAv_get av 0 ha k v e
    rw [Nat.zero_add] at this
    exact this⟩
  obtain ⟨f, y, hp1, mc, ms, g1, g2⟩ := hw _ hl 0 0
  rw [h0, Nat.zero_add, Nat.zero_add] at g1
  exact ⟨f, y, hp1, mc, ms, g1, g2⟩
theorem cK_mono {d k : Nat} {av : List Value} {hp : amH} {R R1 : cQ} (h : cK d k av hp R) (hR : ∀ y hp1 mc ms, R y hp1 mc ms → R1 y hp1 mc ms) : cK d k av hp R1 := by
  obtain ⟨N, h1, f, y, hp1, mc, ms, h2, h3⟩ := h
  exact ⟨N, h1, f, y, hp1, mc, ms, h2, hR _ _ _ _ h3⟩
theorem cK_of {d k : Nat} {av : List Value} {hp : amH} {R : xQ} (h : xK d k av hp R) : cK d k av hp (fun y hp1 mc ms => mc = (bCnt y).1 ∧ ms = (bCnt y).2 ∧ R y hp1) := by
  obtain ⟨N, h1, f, y, hp1, h2, h3⟩ := h
  exact ⟨N, h1, f, y, hp1, _, _, h2, rfl, rfl, h3⟩
