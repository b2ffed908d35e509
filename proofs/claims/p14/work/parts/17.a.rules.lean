/-! ##### 17.a.rules ##### -/
section
/-! ===== ways by hand: rules (locals known by place; ints by what they are) ===== -/
noncomputable def xI (M : amM) (pc : Nat) (i : Instr) (a b : Nat) : Prop := bUp 0 M.1 = true ∧ ∃ r, amSeek M.1 pc = (pc, i, a, b) :: r
noncomputable def lSet : List (Option Value) → Nat → Value → List (Option Value)
  | [], 0, v => [some v]
  | [], k + 1, v => none :: lSet [] k v
  | _ :: r, 0, v => some v :: r
  | c :: r, k + 1, v => c :: lSet r k v
theorem lSet_eq : ∀ (L : List (Option Value)) (k : Nat) (v : Value), lAt (lSet L k v) k = some (some v)
  | [], 0, v => rfl
  | [], k + 1, v => lSet_eq [] k v
  | _ :: r, 0, v => rfl
  | c :: r, k + 1, v => lSet_eq r k v
theorem lSet_ne : ∀ (L : List (Option Value)) (k j : Nat) (v u : Value), ¬ j = k → lAt (lSet L k v) j = some (some u) → lAt L j = some (some u)
  | [], 0, 0, v, u, h, _ => absurd rfl h
  | [], 0, j + 1, v, u, _, e => by cases e
  | [], k + 1, 0, v, u, _, e => by cases e
  | [], k + 1, j + 1, v, u, h, e => by
    have := lSet_ne [] k j v u (fun z => h (by rw [z])) e
    cases this
  | _ :: r, 0, 0, v, u, h, _ => absurd rfl h
  | _ :: r, 0, j + 1, v, u, _, e => e
  | c :: r, k + 1, 0, v, u, _, e => e
  | c :: r, k + 1, j + 1, v, u, h, e => lSet_ne r k j v u (fun z => h (by rw [z])) e
/-- locals known by place -/
noncomputable def lk (cl : amL) (L : List (Option Value)) : Prop := amOkL 84 cl = true ∧ ∀ k v, lAt L k = some (some v) → v.category = 1 ∧ amGet cl k = some v
theorem lk_set {cl : amL} {L : List (Option Value)} (h : lk cl L) (k : Nat) (x : Int32) : lk (amSet1 cl k (.int x)) (lSet L k (.int x)) := by
  refine ⟨mok h.1, fun j v e => ?_⟩
  by_cases hj : j = k
  · subst hj
    rw [lSet_eq] at e
    cases e
    exact ⟨rfl, mg_eq⟩
  · obtain ⟨g1, g2⟩ := h.2 j v (lSet_ne L k j _ v hj e)
    exact ⟨g1, mg_ne g2 g1 (fun z => hj z.symm)⟩
theorem lk_less {cl : amL} {L L1 : List (Option Value)} (h : lk cl L) (hl : ∀ k v, lAt L1 k = some (some v) → lAt L k = some (some v)) : lk cl L1 := ⟨h.1, fun k v e => h.2 k v (hl k v e)⟩
/-- locals known by place, longs among them -/
noncomputable def isJ : Option Value → Bool
  | some (.long _) => true
  | some (.double _) => true
  | _ => false
noncomputable def qSet : List (Option Value) → Nat → Value → List (Option Value)
  | [], 0, v => [some v]
  | [], k + 1, v => none :: qSet [] k v
  | _ :: r, 0, v => some v :: r
  | c :: r, 1, v => (bif isJ c then none else c) :: qSet r 0 v
  | c :: r, k + 2, v => c :: qSet r (k + 1) v
theorem qSet_eq : ∀ (L : List (Option Value)) (k : Nat) (v : Value), lAt (qSet L k v) k = some (some v)
  | [], 0, v => rfl
  | [], k + 1, v => qSet_eq [] k v
  | _ :: r, 0, v => rfl
  | c :: r, 1, v => qSet_eq r 0 v
  | c :: r, k + 2, v => qSet_eq r (k + 1) v
theorem isJ_cat {v : Value} (h : isJ (some v) = false) : v.category = 1 := by
  cases v <;> first | rfl | cases h
theorem qSet_ne : ∀ (L : List (Option Value)) (k j : Nat) (v u : Value), ¬ j = k → lAt (qSet L k v) j = some (some u) → lAt L j = some (some u) ∧ (j + 1 = k → u.category = 1)
  | [], 0, 0, v, u, h, _ => absurd rfl h
  | [], 0, j + 1, v, u, _, e => by cases e
  | [], k + 1, 0, v, u, _, e => by cases e
  | [], k + 1, j + 1, v, u, h, e => by
    have := (qSet_ne [] k j v u (fun z => h (by rw [z])) e).1
    cases this
  | _ :: r, 0, 0, v, u, h, _ => absurd rfl h
  | _ :: r, 0, j + 1, v, u, _, e => ⟨e, fun z => by omega⟩
  | c :: r, 1, 0, v, u, _, e => by
    cases hc : isJ c with
    | true =>
      have e : (bif isJ c then none else c) = some u := Option.some.inj e
      rw [hc] at e
      cases e
    | false =>
      have e : (bif isJ c then none else c) = some u := Option.some.inj e
      rw [hc] at e
      have e : c = some u := e
      subst e
      exact ⟨rfl, fun _ => isJ_cat hc⟩
  | c :: r, 1, j + 1, v, u, h, e => by
    obtain ⟨g1, g2⟩ := qSet_ne r 0 j v u (fun z => h (by rw [z])) e
    exact ⟨g1, fun z => by omega⟩
  | c :: r, k + 2, 0, v, u, _, e => ⟨e, fun z => by omega⟩
  | c :: r, k + 2, j + 1, v, u, h, e => by
    obtain ⟨g1, g2⟩ := qSet_ne r (k + 1) j v u (fun z => h (by rw [z])) e
    exact ⟨g1, fun z => g2 (by omega)⟩
/-- a long laid: its second place is unknown -/
noncomputable def qNo : List (Option Value) → Nat → List (Option Value)
  | [], _ => []
  | _ :: r, 0 => none :: r
  | c :: r, k + 1 => c :: qNo r k
theorem qNo_ne : ∀ (L : List (Option Value)) (k j : Nat) (u : Value), lAt (qNo L k) j = some (some u) → ¬ j = k ∧ lAt L j = some (some u)
  | [], k, j, u, e => by cases e
  | _ :: r, 0, 0, u, e => by cases e
  | _ :: r, 0, j + 1, u, e => ⟨by omega, e⟩
  | c :: r, k + 1, 0, u, e => ⟨by omega, e⟩
  | c :: r, k + 1, j + 1, u, e => by
    obtain ⟨g1, g2⟩ := qNo_ne r k j u e
    exact ⟨by omega, g2⟩
noncomputable def qSet2 (L : List (Option Value)) (k : Nat) (v : Value) : List (Option Value) := qNo (qSet L k v) (k + 1)
noncomputable def lq (cl : amL) (L : List (Option Value)) : Prop := amOkL 84 cl = true ∧ ∀ k v, lAt L k = some (some v) → True ∧ amGet cl k = some v
theorem mq_ne {cl : amL} {i j : Nat} {v w : Value} (h : amGet cl j = some w) (hw : j + 1 = i → w.category = 1) (hij : ¬ i = j) : amGet (amSet1 cl i v) j = some w := by
  unfold amSet1
  unfold amGet
  rw [if_neg hij]
  induction cl with
  | nil => cases h
  | cons q r ih =>
    unfold amGet at h
    by_cases e : q.1 = j
    · rw [if_pos e] at h
      have h := Option.some.inj h
      have z : (!(q.1 == i) && !(q.1 + 1 == i && q.2.category == 2)) = true := by
        rw [h, e]
        by_cases g : j + 1 = i
        · simp [Ne.symm hij, hw g]
        · simp [Ne.symm hij, g]
      simp only [List.filter_cons, z, if_true]
      unfold amGet
      rw [if_pos e, h]
    · rw [if_neg e] at h
      by_cases z : (!(q.1 == i) && !(q.1 + 1 == i && q.2.category == 2)) = true
      · simp only [List.filter_cons, z, if_true]
        unfold amGet
        rw [if_neg e]
        exact ih h
      · simp only [List.filter_cons, z, if_false]
        exact ih h
theorem mq_ne2 {cl : amL} {i j : Nat} {v w : Value} (h : amGet cl j = some w) (hw : j + 1 = i → w.category = 1) (hij : ¬ i = j) (hij2 : ¬ i + 1 = j) : amGet (amSet2 cl i v) j = some w := by
  unfold amSet2
  unfold amGet
  rw [if_neg hij]
  induction cl with
  | nil => cases h
  | cons q r ih =>
    unfold amGet at h
    by_cases e : q.1 = j
    · rw [if_pos e] at h
      have h := Option.some.inj h
      have z : (!(q.1 == i) && (!(q.1 == i + 1) && !(q.1 + 1 == i && q.2.category == 2))) = true := by
        rw [h, e]
        by_cases g : j + 1 = i
        · simp [Ne.symm hij, Ne.symm hij2, hw g]
        · simp [Ne.symm hij, Ne.symm hij2, g]
      simp only [List.filter_cons, z, if_true]
      unfold amGet
      rw [if_pos e, h]
    · rw [if_neg e] at h
      by_cases z : (!(q.1 == i) && (!(q.1 == i + 1) && !(q.1 + 1 == i && q.2.category == 2))) = true
      · simp only [List.filter_cons, z, if_true]
        unfold amGet
        rw [if_neg e]
        exact ih h
      · simp only [List.filter_cons, z, if_false]
        exact ih h
theorem mokV {n i : Nat} {cl : amL} {v : Value} (h : amOkL n cl = true) (hv : amOk n v = true) : amOkL n (amSet1 cl i v) = true := by
  unfold amOkL amSet1 at *
  rw [List.all_cons]
  refine Bool.and_eq_true_iff.mpr ⟨hv, ?_⟩
  rw [List.all_eq_true] at h ⊢
  exact fun q hq => h q (List.mem_filter.mp hq).1
theorem mokJ {n i : Nat} {cl : amL} {v : Value} (h : amOkL n cl = true) (hv : amOk n v = true) : amOkL n (amSet2 cl i v) = true := by
  unfold amOkL amSet2 at *
  rw [List.all_cons]
  refine Bool.and_eq_true_iff.mpr ⟨hv, ?_⟩
  rw [List.all_eq_true] at h ⊢
  exact fun q hq => h q (List.mem_filter.mp hq).1
theorem lq_setV {cl : amL} {L : List (Option Value)} (h : lq cl L) (k : Nat) {x : Value} (hx : amOk 84 x = true) : lq (amSet1 cl k x) (qSet L k x) := by
  refine ⟨mokV h.1 hx, fun j v e => ⟨trivial, ?_⟩⟩
  by_cases hj : j = k
  · subst hj
    rw [qSet_eq] at e
    cases e
    exact mg_eq
  · obtain ⟨g1, g2⟩ := qSet_ne L k j _ v hj e
    exact mq_ne (h.2 j v g1).2 g2 (fun z => hj z.symm)
theorem lq_set {cl : amL} {L : List (Option Value)} (h : lq cl L) (k : Nat) (x : Int32) : lq (amSet1 cl k (.int x)) (qSet L k (.int x)) := lq_setV h k rfl
theorem lq_set2 {cl : amL} {L : List (Option Value)} (h : lq cl L) (k : Nat) {x : Value} (hx : amOk 84 x = true) : lq (amSet2 cl k x) (qSet2 L k x) := by
  refine ⟨mokJ h.1 hx, fun j v e => ⟨trivial, ?_⟩⟩
  obtain ⟨g0, e⟩ := qNo_ne _ _ _ _ e
  by_cases hj : j = k
  · subst hj
    rw [qSet_eq] at e
    cases e
    unfold amSet2
    unfold amGet
    rw [if_pos rfl]
  · obtain ⟨g1, g2⟩ := qSet_ne L k j _ v hj e
    exact mq_ne2 (h.2 j v g1).2 g2 (fun z => hj z.symm) (fun z => g0 z.symm)
theorem lq_less {cl : amL} {L L1 : List (Option Value)} (h : lq cl L) (hl : ∀ k v, lAt L1 k = some (some v) → lAt L k = some (some v)) : lq cl L1 := ⟨h.1, fun k v e => h.2 k v (hl k v e)⟩
abbrev xQ : Type := (Option Value ⊕ Nat) → amH → Prop
noncomputable def xV (d : Nat) (M : amM) (pc : Nat) (L : List (Option Value)) (st : List Value) (hp : amH) (Q : xQ) : Prop := ∀ cl, lq cl L → bWp amGG d M (amSeek M.1 pc) pc cl st hp Q
theorem xI_suf {M : amM} {pc : Nat} {q : Nat × amIn1} {r : amP} (h : amSeek M.1 pc = q :: r) : r <:+ M.1 := by
  have h1 : amSeek M.1 pc <:+ M.1 := List.dropWhile_suffix _
  rw [h] at h1
  exact (List.suffix_cons q r).trans h1
theorem xstep {M : amM} {pc : Nat} {i : Instr} {a b d q : Nat} {L L1 : List (Option Value)} {st st1 : List Value} {hp hp1 : amH} {Q : xQ} (h : xI M pc i a b)
    (hs : ∀ cl, lq cl L → ∃ cl1, amDo amGG M none i a b pc cl st hp = some (.inl ((q, cl1, st1, hp1), 0, 0)) ∧ lq cl1 L1) (hw : xV d M q L1 st1 hp1 Q) : xV d M pc L st hp Q := by
  intro cl hl
  obtain ⟨hu, r, hr⟩ := h
  obtain ⟨cl1, e, hl1⟩ := hs cl hl
  rw [hr]
  refine bWp_step (q := (pc, i, a, b)) e ?_
  rw [bUp_next hu (xI_suf hr)]
  exact hw cl1 hl1
theorem xdrop {M : amM} {pc d : Nat} {L L1 : List (Option Value)} {st : List Value} {hp : amH} {Q : xQ} (hl : ∀ k v, lAt L1 k = some (some v) → lAt L k = some (some v)) (hw : xV d M pc L1 st hp Q) : xV d M pc L st hp Q :=
  fun cl h => hw cl (lq_less h hl)
section XR
variable {M : amM} {pc a b d : Nat} {L : List (Option Value)} {st : List Value} {hp : amH} {Q : xQ}
theorem xld (q : Nat) {i : Instr} {k : Nat} {x : Int32} (h : xI M pc i a b) (hi : (i = .iload k ∧ q = pc + 2) ∨ (∃ n : Fin 4, i = .iload_n n ∧ n = k ∧ q = pc + 1)) (l : lAt L k = some (some (.int x))) (hw : xV d M q L (.int x :: st) hp Q) : xV d M pc L st hp Q := by
  refine xstep h (fun cl hl => ⟨cl, ?_, hl⟩) hw
  have hg := (hl.2 k _ l).2
  rcases hi with ⟨rfl, rfl⟩ | ⟨n, rfl, rfl, rfl⟩
  · simp [amDo, amStep, amLd, hg, isI_int]
  · simp [amDo, amStep, amLd, hg, isI_int]
theorem xild (q : Nat) {n : Fin 4} {x : Int32} (h : xI M pc (.iload_n n) a b) (e : q = pc + 1) (l : lAt L (n : Nat) = some (some (.int x))) (hw : xV d M q L (.int x :: st) hp Q) : xV d M pc L st hp Q :=
  xld q h (Or.inr ⟨n, rfl, rfl, e⟩) l hw
theorem xild2 (q : Nat) {k : Nat} {x : Int32} (h : xI M pc (.iload k) a b) (e : q = pc + 2) (l : lAt L k = some (some (.int x))) (hw : xV d M q L (.int x :: st) hp Q) : xV d M pc L st hp Q :=
  xld q h (Or.inl ⟨rfl, e⟩) l hw
theorem xald (q : Nat) {n : Fin 4} {x : Nat} (h : xI M pc (.aload_n n) a b) (e : q = pc + 1) (l : lAt L (n : Nat) = some (some (.ref x))) (hw : xV d M q L (.ref x :: st) hp Q) : xV d M pc L st hp Q := by
  refine xstep h (fun cl hl => ⟨cl, ?_, hl⟩) hw
  have hg := (hl.2 _ _ l).2
  subst e
  simp [amDo, amStep, amLd, hg, isA_ref]
theorem xcst (q : Nat) (m : Int) {n : Int} (h : xI M pc (.iconst n) a b) (e : q = pc + 1) (hm : (Int32.ofInt n).toInt = m) (hw : ∀ z : Int32, z.toInt = m → xV d M q L (.int z :: st) hp Q) : xV d M pc L st hp Q := by
  refine xstep h (fun cl hl => ⟨cl, ?_, hl⟩) (hw _ hm)
  subst e
  simp [amDo, amStep]
theorem xbip (q : Nat) (m : Int) {n : Int} (h : xI M pc (.bipush n) a b) (e : q = pc + 2) (hm : (Int8.ofInt n).toInt32.toInt = m) (hw : ∀ z : Int32, z.toInt = m → xV d M q L (.int z :: st) hp Q) : xV d M pc L st hp Q := by
  refine xstep h (fun cl hl => ⟨cl, ?_, hl⟩) (hw _ hm)
  subst e
  simp [amDo, amStep]
theorem xsip (q : Nat) (m : Int) {n : Int} (h : xI M pc (.sipush n) a b) (e : q = pc + 3) (hm : (Int16.ofInt n).toInt32.toInt = m) (hw : ∀ z : Int32, z.toInt = m → xV d M q L (.int z :: st) hp Q) : xV d M pc L st hp Q := by
  refine xstep h (fun cl hl => ⟨cl, ?_, hl⟩) (hw _ hm)
  subst e
  simp [amDo, amStep]
theorem xst (q : Nat) {i : Instr} {k : Nat} {x : Int32} (h : xI M pc i a b) (hi : (i = .istore k ∧ q = pc + 2) ∨ (∃ n : Fin 4, i = .istore_n n ∧ n = k ∧ q = pc + 1)) (hk : Nat.ble (k + 1) M.2.1 = true) (hw : xV d M q (qSet L k (.int x)) st hp Q) : xV d M pc L (.int x :: st) hp Q := by
  refine xstep h (fun cl hl => ⟨amSet1 cl k (.int x), ?_, lq_set hl k x⟩) hw
  have hk : k < M.2.1 := Nat.le_of_ble_eq_true hk
  rcases hi with ⟨rfl, rfl⟩ | ⟨n, rfl, rfl, rfl⟩
  · simp [amDo, amStep, amSt1, isI_int, hk]
  · simp [amDo, amStep, amSt1, isI_int, hk]
theorem xist (q : Nat) {n : Fin 4} {x : Int32} (h : xI M pc (.istore_n n) a b) (e : q = pc + 1) (hk : Nat.ble ((n : Nat) + 1) M.2.1 = true) (hw : xV d M q (qSet L (n : Nat) (.int x)) st hp Q) : xV d M pc L (.int x :: st) hp Q :=
  xst q h (Or.inr ⟨n, rfl, rfl, e⟩) hk hw
theorem xist2 (q : Nat) {k : Nat} {x : Int32} (h : xI M pc (.istore k) a b) (e : q = pc + 2) (hk : Nat.ble (k + 1) M.2.1 = true) (hw : xV d M q (qSet L k (.int x)) st hp Q) : xV d M pc L (.int x :: st) hp Q :=
  xst q h (Or.inl ⟨rfl, e⟩) hk hw
theorem xinc (q : Nat) (m : Int) {k : Nat} {n : Int} {x : Int32} (h : xI M pc (.iinc k n) a b) (e : q = pc + 3) (hk : Nat.ble (k + 1) M.2.1 = true) (l : lAt L k = some (some (.int x))) (hm : (Int32.ofInt n).toInt = m) (h1 : -2147483648 ≤ x.toInt + m) (h2 : x.toInt + m ≤ 2147483647) (hw : ∀ z : Int32, z.toInt = x.toInt + m → xV d M q (qSet L k (.int z)) st hp Q) : xV d M pc L st hp Q := by
  have hk : k < M.2.1 := Nat.le_of_ble_eq_true hk
  refine xstep h (fun cl hl => ⟨amSet1 cl k (.int (x + Int32.ofInt n)), ?_, lq_set hl k _⟩) (hw _ (by rw [Int32.toInt_add, hm, aBmod h1 h2]))
  have hg := (hl.2 k _ l).2
  subst e
  simp [amDo, amStep, amInc, hg, hk]
theorem xdup (q : Nat) {v : Value} (h : xI M pc .dup a b) (e : q = pc + 1) (hv : v.category = 1) (hw : xV d M q L (v :: v :: st) hp Q) : xV d M pc L (v :: st) hp Q := by
  refine xstep h (fun cl hl => ⟨cl, ?_, hl⟩) hw
  subst e
  simp [amDo, amStep, hv]
theorem xdup2 (q : Nat) {v w : Value} (h : xI M pc .dup2 a b) (e : q = pc + 1) (hv : v.category = 1) (hv2 : w.category = 1) (hw : xV d M q L (v :: w :: v :: w :: st) hp Q) : xV d M pc L (v :: w :: st) hp Q := by
  refine xstep h (fun cl hl => ⟨cl, ?_, hl⟩) hw
  subst e
  simp [amDo, amStep, hv, hv2]
theorem xpop (q : Nat) {v : Value} (h : xI M pc .pop a b) (e : q = pc + 1) (hv : v.category = 1) (hw : xV d M q L st hp Q) : xV d M pc L (v :: st) hp Q := by
  refine xstep h (fun cl hl => ⟨cl, ?_, hl⟩) hw
  subst e
  simp [amDo, amStep, hv]
theorem xadd (q : Nat) (m : Int) {x y : Int32} (h : xI M pc .iadd a b) (e : q = pc + 1) (hm : x.toInt + y.toInt = m) (h1 : -2147483648 ≤ m) (h2 : m ≤ 2147483647) (hw : ∀ z : Int32, z.toInt = m → xV d M q L (.int z :: st) hp Q) : xV d M pc L (.int y :: .int x :: st) hp Q := by
  subst hm
  refine xstep h (fun cl hl => ⟨cl, ?_, hl⟩) (hw (x + y) (by rw [Int32.toInt_add, aBmod h1 h2]))
  subst e
  simp [amDo, amStep, amII]
theorem xsub (q : Nat) (m : Int) {x y : Int32} (h : xI M pc .isub a b) (e : q = pc + 1) (hm : x.toInt - y.toInt = m) (h1 : -2147483648 ≤ m) (h2 : m ≤ 2147483647) (hw : ∀ z : Int32, z.toInt = m → xV d M q L (.int z :: st) hp Q) : xV d M pc L (.int y :: .int x :: st) hp Q := by
  subst hm
  refine xstep h (fun cl hl => ⟨cl, ?_, hl⟩) (hw (x - y) (by rw [Int32.toInt_sub, aBmod h1 h2]))
  subst e
  simp [amDo, amStep, amII]
theorem xmul (q : Nat) (m : Int) {x y : Int32} (h : xI M pc .imul a b) (e : q = pc + 1) (hm : x.toInt * y.toInt = m) (h1 : -2147483648 ≤ m) (h2 : m ≤ 2147483647) (hw : ∀ z : Int32, z.toInt = m → xV d M q L (.int z :: st) hp Q) : xV d M pc L (.int y :: .int x :: st) hp Q := by
  subst hm
  refine xstep h (fun cl hl => ⟨cl, ?_, hl⟩) (hw (x * y) (by rw [Int32.toInt_mul, aBmod h1 h2]))
  subst e
  simp [amDo, amStep, amII]
theorem xand (q : Nat) {x y : Int32} (h : xI M pc .iand a b) (e : q = pc + 1) (hw : xV d M q L (.int (x &&& y) :: st) hp Q) : xV d M pc L (.int y :: .int x :: st) hp Q := by
  refine xstep h (fun cl hl => ⟨cl, ?_, hl⟩) hw
  subst e
  simp [amDo, amStep, amII]
theorem xor_ (q : Nat) {x y : Int32} (h : xI M pc .ior a b) (e : q = pc + 1) (hw : xV d M q L (.int (x ||| y) :: st) hp Q) : xV d M pc L (.int y :: .int x :: st) hp Q := by
  refine xstep h (fun cl hl => ⟨cl, ?_, hl⟩) hw
  subst e
  simp [amDo, amStep, amII]
theorem xxor (q : Nat) {x y : Int32} (h : xI M pc .ixor a b) (e : q = pc + 1) (hw : xV d M q L (.int (x ^^^ y) :: st) hp Q) : xV d M pc L (.int y :: .int x :: st) hp Q := by
  refine xstep h (fun cl hl => ⟨cl, ?_, hl⟩) hw
  subst e
  simp [amDo, amStep, amII]
theorem xshl (q : Nat) {x y : Int32} (h : xI M pc .ishl a b) (e : q = pc + 1) (hw : xV d M q L (.int (x <<< (y &&& 31)) :: st) hp Q) : xV d M pc L (.int y :: .int x :: st) hp Q := by
  refine xstep h (fun cl hl => ⟨cl, ?_, hl⟩) hw
  subst e
  simp [amDo, amStep, amII]
theorem xshr (q : Nat) {x y : Int32} (h : xI M pc .ishr a b) (e : q = pc + 1) (hw : xV d M q L (.int (x >>> (y &&& 31)) :: st) hp Q) : xV d M pc L (.int y :: .int x :: st) hp Q := by
  refine xstep h (fun cl hl => ⟨cl, ?_, hl⟩) hw
  subst e
  simp [amDo, amStep, amII]
/-- quotient and rest, of numbers that are not below 0 -/
theorem xdiv_t {x y : Int32} (hx : 0 ≤ x.toInt) (hy : 0 < y.toInt) : (x / y).toInt = x.toInt / y.toInt := by
  rw [Int32.toInt_div, Int.tdiv_eq_ediv_of_nonneg hx]
  have h1 := Int.ediv_nonneg hx (Int.le_of_lt hy)
  have h2 := Int.ediv_le_self y.toInt hx
  have h3 := aMax x
  exact aBmod (by omega) (by omega)
theorem xdiv (q : Nat) (m : Int) {x y : Int32} (h : xI M pc .idiv a b) (e : q = pc + 1) (hx : 0 ≤ x.toInt) (hy : 0 < y.toInt) (hm : x.toInt / y.toInt = m) (hw : ∀ z : Int32, z.toInt = m → xV d M q L (.int z :: st) hp Q) : xV d M pc L (.int y :: .int x :: st) hp Q := by
  subst hm
  have hy0 : ¬ y = 0 := fun z => by rw [z] at hy; exact absurd hy (by decide)
  refine xstep h (fun cl hl => ⟨cl, ?_, hl⟩) (hw (x / y) (xdiv_t hx hy))
  subst e
  simp [amDo, amStep, amDiv, hy0]
theorem xrem (q : Nat) (m : Int) {x y : Int32} (h : xI M pc .irem a b) (e : q = pc + 1) (hx : 0 ≤ x.toInt) (hy : 0 < y.toInt) (hm : x.toInt % y.toInt = m) (hw : ∀ z : Int32, z.toInt = m → xV d M q L (.int z :: st) hp Q) : xV d M pc L (.int y :: .int x :: st) hp Q := by
  subst hm
  have hy0 : ¬ y = 0 := fun z => by rw [z] at hy; exact absurd hy (by decide)
  refine xstep h (fun cl hl => ⟨cl, ?_, hl⟩) (hw (x - x / y * y) (by rw [rem_toInt, Int.tmod_eq_emod_of_nonneg hx]))
  subst e
  simp [amDo, amStep, amDiv, hy0]
theorem xgoto {i : Int} (h : xI M pc (.goto i) a b) (hw : xV d M a L st hp Q) : xV d M pc L st hp Q := by
  refine xstep h (fun cl hl => ⟨cl, ?_, hl⟩) hw
  simp [amDo, amStep]
theorem xif (q : Nat) {c : Jvm.ClassFile.Cond} {i : Int} {x : Int32} (h : xI M pc (.ifCond c i) a b) (e : q = pc + 3) (hw1 : amIfP c x = true → xV d M a L st hp Q) (hw2 : amIfP c x = false → xV d M q L st hp Q) : xV d M pc L (.int x :: st) hp Q := by
  subst e
  cases hc : amIfP c x
  · refine xstep h (fun cl hl => ⟨cl, ?_, hl⟩) (hw2 hc)
    simp [amDo, amStep, amIf, hc]
  · refine xstep h (fun cl hl => ⟨cl, ?_, hl⟩) (hw1 hc)
    simp [amDo, amStep, amIf, hc]
theorem xcmp (q : Nat) {c : Jvm.ClassFile.Cond} {i : Int} {x y : Int32} (h : xI M pc (.if_icmp c i) a b) (e : q = pc + 3) (hw1 : amCmpP c x y = true → xV d M a L st hp Q) (hw2 : amCmpP c x y = false → xV d M q L st hp Q) : xV d M pc L (.int y :: .int x :: st) hp Q := by
  subst e
  cases hc : amCmpP c x y
  · refine xstep h (fun cl hl => ⟨cl, ?_, hl⟩) (hw2 hc)
    simp [amDo, amStep, amCmp, hc]
  · refine xstep h (fun cl hl => ⟨cl, ?_, hl⟩) (hw1 hc)
    simp [amDo, amStep, amCmp, hc]
end XR
theorem x_eq {x y : Int32} : x = y ↔ x.toInt = y.toInt := ⟨fun h => by rw [h], fun h => Int32.toInt_inj.mp h⟩
section XB
variable {M : amM} {pc a b d : Nat} {L : List (Option Value)} {st : List Value} {hp : amH} {Q : xQ} {x y : Int32} {i : Int}
theorem z_if {c : Jvm.ClassFile.Cond} {p : Int → Prop} (hp : ∀ x : Int32, amIfP c x = true ↔ p x.toInt) {x : Int32} : (amIfP c x = true → p x.toInt) ∧ (amIfP c x = false → ¬ p x.toInt) := ⟨fun h => (hp x).mp h, fun h z => by rw [(hp x).mpr z] at h; cases h⟩
theorem z_cmp {c : Jvm.ClassFile.Cond} {p : Int → Int → Prop} (hp : ∀ x y : Int32, amCmpP c x y = true ↔ p x.toInt y.toInt) {x y : Int32} : (amCmpP c x y = true → p x.toInt y.toInt) ∧ (amCmpP c x y = false → ¬ p x.toInt y.toInt) := ⟨fun h => (hp x y).mp h, fun h z => by rw [(hp x y).mpr z] at h; cases h⟩
theorem xif_eq (q : Nat) (h : xI M pc (.ifCond .eq i) a b) (e : q = pc + 3) (hw1 : x.toInt = 0 → xV d M a L st hp Q) (hw2 : ¬ x.toInt = 0 → xV d M q L st hp Q) : xV d M pc L (.int x :: st) hp Q :=
  have z := z_if (c := .eq) (p := fun x => x = 0) (fun x => by simp only [amIfP, decide_eq_true_eq]; rw [x_eq]; rfl) (x := x)
  xif q h e (fun u => hw1 (z.1 u)) (fun u => hw2 (z.2 u))
theorem xif_ne (q : Nat) (h : xI M pc (.ifCond .ne i) a b) (e : q = pc + 3) (hw1 : ¬ x.toInt = 0 → xV d M a L st hp Q) (hw2 : x.toInt = 0 → xV d M q L st hp Q) : xV d M pc L (.int x :: st) hp Q :=
  have z := z_if (c := .ne) (p := fun x => ¬ x = 0) (fun x => by simp only [amIfP, decide_eq_true_eq]; rw [x_eq]; rfl) (x := x)
  xif q h e (fun u => hw1 (z.1 u)) (fun u => hw2 (Decidable.not_not.mp (z.2 u)))
theorem xif_lt (q : Nat) (h : xI M pc (.ifCond .lt i) a b) (e : q = pc + 3) (hw1 : x.toInt < 0 → xV d M a L st hp Q) (hw2 : ¬ x.toInt < 0 → xV d M q L st hp Q) : xV d M pc L (.int x :: st) hp Q :=
  have z := z_if (c := .lt) (p := fun x => x < 0) (fun x => by simp only [amIfP, decide_eq_true_eq]; rw [Int32.lt_iff_toInt_lt]; rfl) (x := x)
  xif q h e (fun u => hw1 (z.1 u)) (fun u => hw2 (z.2 u))
theorem xif_ge (q : Nat) (h : xI M pc (.ifCond .ge i) a b) (e : q = pc + 3) (hw1 : 0 ≤ x.toInt → xV d M a L st hp Q) (hw2 : ¬ 0 ≤ x.toInt → xV d M q L st hp Q) : xV d M pc L (.int x :: st) hp Q :=
  have z := z_if (c := .ge) (p := fun x => 0 ≤ x) (fun x => by simp only [amIfP, decide_eq_true_eq]; rw [Int32.le_iff_toInt_le]; rfl) (x := x)
  xif q h e (fun u => hw1 (z.1 u)) (fun u => hw2 (z.2 u))
theorem xif_le (q : Nat) (h : xI M pc (.ifCond .le i) a b) (e : q = pc + 3) (hw1 : x.toInt ≤ 0 → xV d M a L st hp Q) (hw2 : ¬ x.toInt ≤ 0 → xV d M q L st hp Q) : xV d M pc L (.int x :: st) hp Q :=
  have z := z_if (c := .le) (p := fun x => x ≤ 0) (fun x => by simp only [amIfP, decide_eq_true_eq]; rw [Int32.le_iff_toInt_le]; rfl) (x := x)
  xif q h e (fun u => hw1 (z.1 u)) (fun u => hw2 (z.2 u))
theorem xcmp_eq (q : Nat) (h : xI M pc (.if_icmp .eq i) a b) (e : q = pc + 3) (hw1 : x.toInt = y.toInt → xV d M a L st hp Q) (hw2 : ¬ x.toInt = y.toInt → xV d M q L st hp Q) : xV d M pc L (.int y :: .int x :: st) hp Q :=
  have z := z_cmp (c := .eq) (p := fun x y => x = y) (fun x y => by simp only [amCmpP, decide_eq_true_eq]; exact x_eq) (x := x) (y := y)
  xcmp q h e (fun u => hw1 (z.1 u)) (fun u => hw2 (z.2 u))
theorem xcmp_ne (q : Nat) (h : xI M pc (.if_icmp .ne i) a b) (e : q = pc + 3) (hw1 : ¬ x.toInt = y.toInt → xV d M a L st hp Q) (hw2 : x.toInt = y.toInt → xV d M q L st hp Q) : xV d M pc L (.int y :: .int x :: st) hp Q :=
  have z := z_cmp (c := .ne) (p := fun x y => ¬ x = y) (fun x y => by simp only [amCmpP, decide_eq_true_eq]; rw [x_eq]) (x := x) (y := y)
  xcmp q h e (fun u => hw1 (z.1 u)) (fun u => hw2 (Decidable.not_not.mp (z.2 u)))
theorem xcmp_lt (q : Nat) (h : xI M pc (.if_icmp .lt i) a b) (e : q = pc + 3) (hw1 : x.toInt < y.toInt → xV d M a L st hp Q) (hw2 : ¬ x.toInt < y.toInt → xV d M q L st hp Q) : xV d M pc L (.int y :: .int x :: st) hp Q :=
  have z := z_cmp (c := .lt) (p := fun x y => x < y) (fun x y => by simp only [amCmpP, decide_eq_true_eq]; exact Int32.lt_iff_toInt_lt) (x := x) (y := y)
  xcmp q h e (fun u => hw1 (z.1 u)) (fun u => hw2 (z.2 u))
theorem xcmp_ge (q : Nat) (h : xI M pc (.if_icmp .ge i) a b) (e : q = pc + 3) (hw1 : y.toInt ≤ x.toInt → xV d M a L st hp Q) (hw2 : ¬ y.toInt ≤ x.toInt → xV d M q L st hp Q) : xV d M pc L (.int y :: .int x :: st) hp Q :=
  have z := z_cmp (c := .ge) (p := fun x y => y ≤ x) (fun x y => by simp only [amCmpP, decide_eq_true_eq]; exact Int32.le_iff_toInt_le) (x := x) (y := y)
  xcmp q h e (fun u => hw1 (z.1 u)) (fun u => hw2 (z.2 u))
theorem xcmp_gt (q : Nat) (h : xI M pc (.if_icmp .gt i) a b) (e : q = pc + 3) (hw1 : y.toInt < x.toInt → xV d M a L st hp Q) (hw2 : ¬ y.toInt < x.toInt → xV d M q L st hp Q) : xV d M pc L (.int y :: .int x :: st) hp Q :=
  have z := z_cmp (c := .gt) (p := fun x y => y < x) (fun x y => by simp only [amCmpP, decide_eq_true_eq]; exact Int32.lt_iff_toInt_lt) (x := x) (y := y)
  xcmp q h e (fun u => hw1 (z.1 u)) (fun u => hw2 (z.2 u))
theorem xcmp_le (q : Nat) (h : xI M pc (.if_icmp .le i) a b) (e : q = pc + 3) (hw1 : x.toInt ≤ y.toInt → xV d M a L st hp Q) (hw2 : ¬ x.toInt ≤ y.toInt → xV d M q L st hp Q) : xV d M pc L (.int y :: .int x :: st) hp Q :=
  have z := z_cmp (c := .le) (p := fun x y => x ≤ y) (fun x y => by simp only [amCmpP, decide_eq_true_eq]; exact Int32.le_iff_toInt_le) (x := x) (y := y)
  xcmp q h e (fun u => hw1 (z.1 u)) (fun u => hw2 (z.2 u))
end XB
end
/-! ##### 17.b.heap ##### -/
section
/-! ===== ways by hand: fields, rows, calls ===== -/
noncomputable def rU (hp hp1 : amH) (c i : Nat) (m : Int) : Prop := rN hp1 c i = m ∧ ∀ c1 i1, ¬ (c1 = c ∧ i1 = i) → bFld hp1 c1 i1 = bFld hp c1 i1
theorem rU_fr {hp hp1 : amH} {c i : Nat} {m : Int} (h : rU hp hp1 c i m) {W : List (Nat × Nat)} (hW : bIn W c i = true) : bFr W hp hp1 := fun c1 k hk => h.2 c1 k (fun z => by rw [z.1, z.2, hW] at hk; cases hk)
theorem rU_ne {hp hp1 : amH} {c i : Nat} {m : Int} (h : rU hp hp1 c i m) {c1 i1 : Nat} (hn : ¬ (c1 = c ∧ i1 = i)) : rN hp1 c1 i1 = rN hp c1 i1 := rN_eq (h.2 c1 i1 hn)
noncomputable def fR (f : Nat) : Option Nat := match bTT 66 with
  | some D => (match bDy D f with
    | some (.inr (.inr [j])) => some j
    | _ => none)
  | none => none
noncomputable def fB (f : Nat) : Option (Nat × Nat) := match bTT 66 with
  | some D => (match bDy D f with
    | some (.inl q) => some q
    | _ => none)
  | none => none
noncomputable def fD66 : bD := (11, 33, bR66)
theorem fD66_eq : bTT 66 = some fD66 := rfl
theorem x66 {hp : amH} (hH : bHk 84 bTT hp) : ∃ vs, hp[66]? = some (11, vs) ∧ vs.length = 33 ∧ ∀ f w, vs[f]? = some w → ∃ y, bDy fD66 f = some y ∧ bYr 84 y w := by
  obtain ⟨⟨t, vs⟩, g1, g2, g3, g4⟩ := bHk_at hH (i := 66) (by decide) fD66_eq
  have ht : t = 11 := g2
  subst ht
  exact ⟨vs, g1, g3, g4⟩
theorem x66R {hp : amH} (hH : bHk 84 bTT hp) {f j : Nat} (hf : fR f = some j) : ∃ vs, hp[66]? = some (11, vs) ∧ vs[f]? = some (.ref j) := by
  obtain ⟨vs, h1, h2, h3⟩ := x66 hH
  have hd : bDy fD66 f = some (.inr (.inr [j])) := by
    unfold fR at hf
    rw [fD66_eq] at hf
    dsimp only at hf
    split at hf
    · next e => cases hf; exact e
    · cases hf
  have hlt : f < 33 := by
    rcases Nat.lt_or_ge f 33 with z | z
    · exact z
    · have : bDy fD66 f = none := by
        show lAt bR66 f = none
        rw [lAt_eq]
        exact List.getElem?_eq_none (by have : bR66.length = 33 := rfl; omega)
      rw [this] at hd
      cases hd
  refine ⟨vs, h1, ?_⟩
  have hlt2 : f < vs.length := by omega
  obtain ⟨y, k1, k2⟩ := h3 f vs[f] (List.getElem?_eq_getElem hlt2)
  rw [hd] at k1
  cases k1
  obtain ⟨u, e1, -, e3⟩ := k2
  have hu : u = j := by simpa using e3
  rw [List.getElem?_eq_getElem hlt2, e1, hu]
theorem x66I {hp : amH} (hH : bHk 84 bTT hp) {f lo hi : Nat} (hf : fB f = some (lo, hi)) : ∃ vs, hp[66]? = some (11, vs) ∧ f < vs.length ∧ bDy fD66 f = some (.inl (lo, hi)) ∧ f < 33 ∧ ∃ x, vs[f]? = some (.int x) ∧ x.toInt = rN hp 66 f ∧ lo ≤ aOff x ∧ aOff x ≤ hi := by
  obtain ⟨vs, h1, h2, h3⟩ := x66 hH
  have hd : bDy fD66 f = some (.inl (lo, hi)) := by
    unfold fB at hf
    rw [fD66_eq] at hf
    dsimp only at hf
    split at hf
    · next e => cases hf; exact e
    · cases hf
  have hlt : f < 33 := by
    rcases Nat.lt_or_ge f 33 with z | z
    · exact z
    · have : bDy fD66 f = none := by
        show lAt bR66 f = none
        rw [lAt_eq]
        exact List.getElem?_eq_none (by have : bR66.length = 33 := rfl; omega)
      rw [this] at hd
      cases hd
  have hlt2 : f < vs.length := by omega
  obtain ⟨y, k1, k2⟩ := h3 f vs[f] (List.getElem?_eq_getElem hlt2)
  rw [hd] at k1
  cases k1
  obtain ⟨x, e1, x1, x2⟩ := k2
  refine ⟨vs, h1, hlt2, hd, hlt, x, by rw [List.getElem?_eq_getElem hlt2, e1], ?_, x1, x2⟩
  unfold rN bFld
  rw [h1]
  dsimp only
  rw [List.getElem?_eq_getElem hlt2, e1]
theorem rb_fld {hp : amH} (hH : bHk 84 bTT hp) {f lo hi : Nat} (hf : fB f = some (lo, hi)) : (lo : Int) - 2147483648 ≤ rN hp 66 f ∧ rN hp 66 f ≤ (hi : Int) - 2147483648 := by
  obtain ⟨vs, -, -, -, -, x, -, h2, h3, h4⟩ := x66I hH hf
  have := aOff_eq x
  omega
theorem x_row {hp : amH} (hH : bHk 84 bTT hp) {q len lo hi : Nat} (hq : q < 84) (hT : bTT q = some (32, len, [.inl (lo, hi)])) : ∃ w : List Int32, hp[q]? = some (32, w.map Value.int) ∧ w.length = len ∧ ∀ i, i < len → rN hp q i = (w.getD i 0).toInt ∧ lo ≤ aOff (w.getD i 0) ∧ aOff (w.getD i 0) ≤ hi := by
  obtain ⟨c, h1, h2⟩ := bHk_at hH hq hT
  have h3 := h2
  obtain ⟨w, rfl, hw⟩ := r_ints h2
  refine ⟨w, h1, hw, fun i hi => ⟨?_, ?_⟩⟩
  · unfold rN bFld
    rw [h1]
    dsimp only
    rw [List.getElem?_map, List.getElem?_eq_getElem (by omega), List.getD_eq_getElem?_getD, List.getElem?_eq_getElem (by omega)]
    rfl
  · obtain ⟨y, g1, g2⟩ := h3.2.2 i (.int w[i]) (by dsimp only; rw [List.getElem?_map, List.getElem?_eq_getElem (by omega)]; rfl)
    cases g1
    obtain ⟨x, e, x1, x2⟩ := g2
    cases e
    rw [List.getD_eq_getElem?_getD, List.getElem?_eq_getElem (by omega)]
    exact ⟨x1, x2⟩
theorem rb_row {hp : amH} (hH : bHk 84 bTT hp) {q len lo hi i : Nat} (hq : q < 84) (hT : bTT q = some (32, len, [.inl (lo, hi)])) (hil : i < len) : (lo : Int) - 2147483648 ≤ rN hp q i ∧ rN hp q i ≤ (hi : Int) - 2147483648 := by
  obtain ⟨w, -, -, h⟩ := x_row hH hq hT
  obtain ⟨h1, h2, h3⟩ := h i hil
  have := aOff_eq (w.getD i 0)
  omega
section XH
variable {M : amM} {pc a b d : Nat} {L : List (Option Value)} {st : List Value} {hp : amH} {Q : xQ}
theorem xgetR (q j : Nat) {f : Nat} {i : _} (hH : bHk 84 bTT hp) (h : xI M pc (.getfield i) 11 f) (e : q = pc + 3) (hf : fR f = some j) (hw : xV d M q L (.ref j :: st) hp Q) : xV d M pc L (.ref 66 :: st) hp Q := by
  obtain ⟨vs, h1, h2⟩ := x66R hH hf
  refine xstep h (fun cl hl => ⟨cl, ?_, hl⟩) hw
  subst e
  simp [amDo, amStep, amFGet, h1, h2]
theorem xgetI (q : Nat) {f lo hi : Nat} {i : _} (hH : bHk 84 bTT hp) (h : xI M pc (.getfield i) 11 f) (e : q = pc + 3) (hf : fB f = some (lo, hi)) (hw : ∀ z : Int32, z.toInt = rN hp 66 f → xV d M q L (.int z :: st) hp Q) : xV d M pc L (.ref 66 :: st) hp Q := by
  obtain ⟨vs, h1, -, -, -, x, h2, h3, -⟩ := x66I hH hf
  refine xstep h (fun cl hl => ⟨cl, ?_, hl⟩) (hw x h3)
  subst e
  simp [amDo, amStep, amFGet, h1, h2]
theorem xputI (q : Nat) {f lo hi : Nat} {i : _} {x : Int32} (hH : bHk 84 bTT hp) (h : xI M pc (.putfield i) 11 f) (e : q = pc + 3) (hf : fB f = some (lo, hi)) (hn : narrow (amFty 11 f) (.int x) = .int x ∧ fits (amFty 11 f) (.int x) = true) (h1 : (lo : Int) - 2147483648 ≤ x.toInt) (h2 : x.toInt ≤ (hi : Int) - 2147483648)
    (hw : ∀ hp1, bHk 84 bTT hp1 → rU hp hp1 66 f x.toInt → xV d M q L st hp1 Q) : xV d M pc L (.int x :: .ref 66 :: st) hp Q := by
  obtain ⟨vs, g1, g2, g3, g4, -⟩ := x66I hH hf
  have ho := aOff_eq x
  obtain ⟨k1, k2, k3, k4⟩ := r_st hH (v := x) (m := f) (lo := lo) (hi := hi) (by decide) fD66_eq g1 g3 (by omega) (by omega) g4
  refine xstep h (fun cl hl => ⟨cl, ?_, hl⟩) (hw (hp.set 66 (11, vs.set f (.int x))) k1 ⟨k3, fun c1 i1 hn => ?_⟩)
  · subst e
    simp [amDo, amStep, amFSet, g1, g2, hn.1, hn.2]
  · refine k4 [(66, f)] (by simp [bIn]) c1 i1 ?_
    cases hb : bIn [(66, f)] c1 i1
    · rfl
    · simp only [bIn] at hb
      split at hb
      · next e1 =>
        have e1 := Nat.eq_of_beq_eq_true e1
        split at hb
        · next e2 => exact absurd ⟨e1.symm, (Nat.eq_of_beq_eq_true e2).symm⟩ hn
        · split at hb
          · next e3 => have := Nat.eq_of_beq_eq_true e3; omega
          · cases hb
      · cases hb
theorem xiald (q n : Nat) {c len lo hi : Nat} {x : Int32} (hH : bHk 84 bTT hp) (h : xI M pc .iaload a b) (e : q = pc + 1) (hq : c < 84) (hT : bTT c = some (32, len, [.inl (lo, hi)])) (hn : x.toInt = (n : Int)) (hl : n < len) (hw : ∀ z : Int32, z.toInt = rN hp c n → xV d M q L (.int z :: st) hp Q) : xV d M pc L (.int x :: .ref c :: st) hp Q := by
  obtain ⟨w, h1, h2, h3⟩ := x_row hH hq hT
  refine xstep h (fun cl hl => ⟨cl, ?_, hl⟩) (hw (w.getD n 0) (h3 n hl).1.symm)
  have hr := rw_rd (r := st) h1 hn (by omega)
  subst e
  simp [amDo, amStep, amSc, hr]
theorem xiast (q n : Nat) {c len lo hi : Nat} {x v : Int32} (hH : bHk 84 bTT hp) (h : xI M pc .iastore a b) (e : q = pc + 1) (hq : c < 84) (hT : bTT c = some (32, len, [.inl (lo, hi)])) (hn : x.toInt = (n : Int)) (hl : n < len) (h1 : (lo : Int) - 2147483648 ≤ v.toInt) (h2 : v.toInt ≤ (hi : Int) - 2147483648)
    (hw : ∀ hp1, bHk 84 bTT hp1 → rU hp hp1 c n v.toInt → xV d M q L st hp1 Q) : xV d M pc L (.int v :: .int x :: .ref c :: st) hp Q := by
  obtain ⟨w, g1, g2, g3⟩ := x_row hH hq hT
  have ho := aOff_eq v
  have hlen : (w.map Value.int).length = len := by rw [List.length_map]; exact g2
  have hy : bDy (32, len, [.inl (lo, hi)]) n = some (.inl (lo, hi)) := rfl
  have hset : (w.map Value.int).set n (.int v) = (w.set n v).map Value.int := by rw [List.map_set]
  obtain ⟨c0, q1, q2⟩ := bHk_at hH hq hT
  cases q1.symm.trans g1
  have k1 : bHk 84 bTT (hp.set c (32, (w.map Value.int).set n (.int v))) := bHk_set hH hT (bHc_set q2 hy ⟨v, rfl, by omega, by omega⟩)
  refine xstep h (fun cl hl => ⟨cl, ?_, hl⟩) (hw (hp.set c (32, (w.map Value.int).set n (.int v))) k1 ⟨?_, fun c1 i1 hne => ?_⟩)
  · have hr := rv_wr (r := st) (v := v) g1 hn (by omega)
    subst e
    simp only [amDo, amStep, hr, Option.map_some]
  · unfold rN
    rw [bFld_set g1, if_pos rfl]
    dsimp only
    rw [List.getElem?_set_self (by omega)]
  · rw [bFld_set g1]
    split
    · next z =>
      subst z
      dsimp only
      rw [List.getElem?_set_ne (fun z => hne ⟨rfl, z.symm⟩)]
      unfold bFld
      rw [g1]
    · rfl
theorem xret {x : Int32} (h : xI M pc .ireturn a b) (hr : M.2.2.2.2.1 = some .int) (hQ : Q (.inl (some (.int x))) hp) : xV d M pc L [.int x] hp Q := by
  intro cl hl
  obtain ⟨hu, r, hr2⟩ := h
  rw [hr2]
  refine bWp_ret (q := (pc, .ireturn, a, b)) ?_ hQ
  simp [amDo, amRetV, hr, narrow]
theorem xretB {x : Int32} (h : xI M pc .ireturn a b) (hr : M.2.2.2.2.1 = some .boolean) (hx : x.toInt = 0 ∨ x.toInt = 1) (hQ : Q (.inl (some (.int x))) hp) : xV d M pc L [.int x] hp Q := by
  intro cl hl
  obtain ⟨hu, r, hr2⟩ := h
  rw [hr2]
  refine bWp_ret (q := (pc, .ireturn, a, b)) ?_ hQ
  have hx : x = 0 ∨ x = 1 := hx.imp (fun z => x_eq.mpr z) (fun z => x_eq.mpr z)
  rcases hx with rfl | rfl <;> simp [amDo, amRetV, hr, narrow] <;> decide
theorem xretV (h : xI M pc .return_ a b) (hr : M.2.2.2.2.1 = none) (hQ : Q (.inl none) hp) : xV d M pc L [] hp Q := by
  intro cl hl
  obtain ⟨hu, r, hr2⟩ := h
  rw [hr2]
  refine bWp_ret (q := (pc, .return_, a, b)) ?_ hQ
  simp [amDo, amRetV, hr]
end XH
/-- what a call comes to -/
noncomputable def xK (d k : Nat) (av : List Value) (hp : amH) (R : xQ) : Prop := ∃ N, amGG k = some N ∧ bWp amGG d N N.1 0 (lv_args 0 av) [] hp R
theorem xK_mono {d k : Nat} {av : List Value} {hp : amH} {R R1 : xQ} (h : xK d k av hp R) (hR : ∀ y hp1, R y hp1 → R1 y hp1) : xK d k av hp R1 := by
  obtain ⟨N, h1, h2⟩ := h
  exact ⟨N, h1, bWp_mono h2 hR⟩
theorem xK_deep {d e k : Nat} {av : List Value} {hp : amH} {R : xQ} (h : xK d k av hp R) (hd : d ≤ e) : xK e k av hp R := by
  obtain ⟨N, h1, h2⟩ := h
  exact ⟨N, h1, bWp_deep h2 hd⟩
noncomputable def xcOk (kd k : Nat) (av rest : List Value) : Bool := match amGG k with
  | some N => Nat.beq N.2.2.1 av.length && (Nat.ble ((av.reverse.map fun v => v.category).sum) N.2.1 && (Nat.beq N.2.2.2.2.2.2 11 || Nat.beq kd 1)) && Nat.ble ((rest.map fun v => v.category).sum) 8
  | none => false
noncomputable def xcRf (kd : Nat) (av : List Value) : Bool := match av with
  | .ref o :: _ => Nat.beq o 66 || Nat.beq kd 1
  | _ => Nat.beq kd 1
section XC
variable {M : amM} {pc b d : Nat} {L : List (Option Value)} {hp : amH} {Q : xQ}
theorem xcallG (q : Nat) {k kd : Nat} {i : Instr} {av rest st : List Value} (hH : bHk 84 bTT hp) (h : xI M pc i k b) (hi : (∃ j, i = .invokevirtual j ∧ kd = 0 ∧ ¬ b = 7 ∧ ¬ b = 8) ∨ (∃ j, i = .invokestatic j ∧ kd = 1 ∧ ¬ b = 6)) (e : q = pc + 3) (hst : st = av.reverse ++ rest) (hc : xcOk kd k av rest = true) (hr : amOkS 84 rest = true) (hv : xcRf kd av = true)
    (hk : xK d k av hp (fun y hp1 => ∃ v, y = .inl v ∧ xV (d + 1) M q L (v.toList ++ rest) hp1 Q)) : xV (d + 1) M pc L st hp Q := by
  intro cl hl
  obtain ⟨hu, r, hr2⟩ := h
  obtain ⟨N, hN, hw⟩ := hk
  rw [hr2]
  unfold xcOk at hc
  rw [hN] at hc
  simp only [Bool.and_eq_true, Bool.or_eq_true] at hc
  obtain ⟨⟨c1, c2, c3⟩, c4⟩ := hc
  have c1 := Nat.eq_of_beq_eq_true c1
  have c2 := Nat.le_of_ble_eq_true c2
  have c4 := Nat.le_of_ble_eq_true c4
  have hlen : av.reverse.length = N.2.2.1 := by rw [List.length_reverse, c1]
  have t1 : st.take N.2.2.1 = av.reverse := by rw [hst, ← hlen, List.take_left]
  have t2 : st.drop N.2.2.1 = rest := by rw [hst, ← hlen, List.drop_left]
  have hrec : amRecv kd N.2.2.2.2.2.2 hp av = true := by
    have go : kd = 1 ∨ (kd = 0 ∧ N.2.2.2.2.2.2 = 11) := by
      rcases hi with ⟨j, -, z, -⟩ | ⟨j, -, z, -⟩
      · rcases c3 with u | u
        · exact Or.inr ⟨z, Nat.eq_of_beq_eq_true u⟩
        · exact Or.inl (Nat.eq_of_beq_eq_true u)
      · exact Or.inl z
    cases av with
    | nil => exact decide_eq_true (Nat.eq_of_beq_eq_true hv)
    | cons v l =>
      cases v
      case ref o =>
        unfold xcRf at hv
        simp only [Bool.or_eq_true] at hv
        unfold amRecv
        dsimp only
        rcases go with z | ⟨z, z2⟩
        · rw [if_neg (by omega)]
        · rw [if_pos z, z2]
          rcases hv with u | u
          · have u := Nat.eq_of_beq_eq_true u
            subst u
            obtain ⟨vs, h1, -⟩ := x66 hH
            rw [h1]
            rfl
          · have u := Nat.eq_of_beq_eq_true u
            omega
      all_goals exact decide_eq_true (Nat.eq_of_beq_eq_true hv)
  have hcall : amCall amGG kd k cl st hp = some (.inr (.inr (.inr (k, av, rest)))) := by
    unfold amCall
    rw [hN]
    dsimp only
    rw [t1, t2, List.reverse_reverse, if_pos]
    refine ⟨by rw [hst, List.length_append]; omega, c2, ?_, c4⟩
    rw [hH.1, hl.1, hr, hrec]
    rfl
  have hdo : amDo amGG M none i k b pc cl st hp = some (.inr (.inr (.inr (k, av, rest)))) := by
    rcases hi with ⟨j, rfl, rfl, z1, z2⟩ | ⟨j, rfl, rfl, z1⟩
    · simp only [amDo, z1, z2, if_false]; exact hcall
    · simp only [amDo, z1, if_false]; exact hcall
  refine bWp_call (q := (pc, i, k, b)) hdo hN (bWp_mono hw (fun y hp1 hy => ?_))
  obtain ⟨v, rfl, hy⟩ := hy
  dsimp only
  rw [bUp_next hu (xI_suf hr2), ← e]
  exact hy cl hl
theorem xcall (q : Nat) {k : Nat} {j : _} (av rest : List Value) {st : List Value} (hH : bHk 84 bTT hp) (h : xI M pc (.invokevirtual j) k 0) (e : q = pc + 3) (hst : st = av.reverse ++ rest) (hc : xcOk 0 k av rest = true) (hr : amOkS 84 rest = true) (hv : xcRf 0 av = true)
    (hk : xK d k av hp (fun y hp1 => ∃ v, y = .inl v ∧ xV (d + 1) M q L (v.toList ++ rest) hp1 Q)) : xV (d + 1) M pc L st hp Q :=
  xcallG q hH h (Or.inl ⟨j, rfl, rfl, by decide, by decide⟩) e hst hc hr hv hk
theorem xcallS (q : Nat) {k : Nat} {j : _} (av rest : List Value) {st : List Value} (hH : bHk 84 bTT hp) (h : xI M pc (.invokestatic j) k 0) (e : q = pc + 3) (hst : st = av.reverse ++ rest) (hc : xcOk 1 k av rest = true) (hr : amOkS 84 rest = true) (hv : xcRf 1 av = true)
    (hk : xK d k av hp (fun y hp1 => ∃ v, y = .inl v ∧ xV (d + 1) M q L (v.toList ++ rest) hp1 Q)) : xV (d + 1) M pc L st hp Q :=
  xcallG q hH h (Or.inr ⟨j, rfl, rfl, by decide⟩) e hst hc hr hv hk
end XC
/-- beginning a method -/
noncomputable def xAv (av : List Value) : Bool := av.all (fun v => Nat.beq v.category 1 && amOk 84 v)
theorem xAv_get : ∀ (av : List Value) (i : Nat), xAv av = true → ∀ k v, lAt (av.map some) k = some (some v) → v.category = 1 ∧ amGet (lv_args i av) (i + k) = some v
  | [], i, _, k, v, e => by cases e
  | u :: r, i, h, k, v, e => by
    unfold xAv at h
    rw [List.all_cons] at h
    simp only [Bool.and_eq_true] at h
    have hc := Nat.eq_of_beq_eq_true h.1.1
    match k, e with
    | 0, e =>
      cases e
      refine ⟨hc, ?_⟩
      unfold lv_args amGet
      rw [if_pos (by omega)]
    | k + 1, e =>
      obtain ⟨g1, g2⟩ := xAv_get r (i + 1) h.2 k v e
      refine ⟨g1, ?_⟩
      unfold lv_args amGet
      rw [if_neg (by dsimp only; omega), if_neg (by omega), show i + (k + 1) = i + 1 + k by omega]
      exact g2
theorem xAv_ok : ∀ (av : List Value) (i : Nat), xAv av = true → amOkL 84 (lv_args i av) = true
  | [], i, _ => rfl
  | u :: r, i, h => by
    unfold xAv at h
    rw [List.all_cons] at h
    simp only [Bool.and_eq_true] at h
    unfold lv_args amOkL
    rw [List.all_cons]
    exact Bool.and_eq_true_iff.mpr ⟨h.1.2, xAv_ok r _ h.2⟩
theorem xin {d k : Nat} {M : amM} {av : List Value} {hp : amH} {R : xQ} (hM : amGG k = some M) (h0 : amSeek M.1 0 = M.1) (ha : xAv av = true) (hw : xV d M 0 (av.map some) [] hp R) : xK d k av hp R := by
  refine ⟨M, hM, ?_⟩
  have := hw (lv_args 0 av) ⟨xAv_ok av 0 ha, fun k v e => by
    obtain ⟨g1, g2⟩ := xAv_get av 0 ha k v e
    rw [Nat.zero_add] at g2
    exact ⟨trivial, g2⟩⟩
  rw [h0] at this
  exact this
/-- a checked method called -/
theorem xsem {P : amH → Prop} {d k : Nat} {s : bSp} {av : List Value} {hp : amH} {R : xQ} (hs : bSem amGG P 84 bTT k s) (hd : s.2.2.1 ≤ d) (hH : bHk 84 bTT hp) (hP : P hp) (ha : bArgs 84 s.1 av) (hf : bFacts hp s.2.1)
    (hR : ∀ y hp1, bHk 84 bTT hp1 → P hp1 → bFr s.2.2.2.1 hp hp1 → bOut 84 s y hp1 → R y hp1) : xK d k av hp R := by
  obtain ⟨N, hN, hw⟩ := hs
  exact ⟨N, hN, bWp_deep (bWp_mono (hw av hp hH hP ha hf) (fun y hp1 h => hR y hp1 h.1 h.2.1 h.2.2.1 h.2.2.2)) hd⟩
end
