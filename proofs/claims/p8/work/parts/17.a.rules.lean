/-! ===== ways by hand: rules (locals known by place; ints by what they are) ===== -/
def xI (M : amM) (pc : Nat) (i : Instr) (a b : Nat) : Prop := bUp 0 M.1 = true ∧ ∃ r, amSeek M.1 pc = (pc, i, a, b) :: r
def lSet : List (Option Value) → Nat → Value → List (Option Value)
  | [], 0, v => [some v]
  | [], k + 1, v => none :: lSet [] k v
  | _ :: r, 0, v => some v :: r
  | c :: r, k + 1, v => c :: lSet r k v
theorem lSet_eq : ∀ (L : List (Option Value)) (k : Nat) (v : Value), lAt (lSet L k v) k = some (some v)
  | [], 0, v => rfl
  | [], k + 1, v => lSet_eq [] k v
  | _ :: r, 0, v => rfl
  | c :: r, k + 1, v => lSet_eq r k v
theorem lSet_ne : ∀ (L : List (Option Value)) (k j : Nat) (v u : Value), ¬ j = k → lAt (lSet L k v) j = some (some u) → lAt L j = some (some u)
  | [], 0, 0, v, u, h, _ => absurd rfl h
  | [], 0, j + 1, v, u, _, e => by cases e
  | [], k + 1, 0, v, u, _, e => by cases e
  | [], k + 1, j + 1, v, u, h, e => by
    have := lSet_ne [] k j v u (fun z => h (by rw [z])) e
    cases this
  | _ :: r, 0, 0, v, u, h, _ => absurd rfl h
  | _ :: r, 0, j + 1, v, u, _, e => e
  | c :: r, k + 1, 0, v, u, _, e => e
  | c :: r, k + 1, j + 1, v, u, h, e => lSet_ne r k j v u (fun z => h (by rw [z])) e
/-- locals known by place -/
def lk (cl : amL) (L : List (Option Value)) : Prop := amOkL 84 cl = true ∧ ∀ k v, lAt L k = some (some v) → v.category = 1 ∧ amGet cl k = some v
theorem lk_set {cl : amL} {L : List (Option Value)} (h : lk cl L) (k : Nat) (x : Int32) : lk (amSet1 cl k (.int x)) (lSet L k (.int x)) := by
  refine ⟨mok h.1, fun j v e => ?_⟩
  by_cases hj : j = k
  · subst hj
    rw [lSet_eq] at e
    cases e
    exact ⟨rfl, mg_eq⟩
  · obtain ⟨g1, g2⟩ := h.2 j v (lSet_ne L k j _ v hj e)
    exact ⟨g1, mg_ne g2 g1 (fun z => hj z.symm)⟩
/-- locals known by place, longs among them -/
def isJ : Option Value → Bool
  | some (.long _) => true
  | some (.double _) => true
  | _ => false
def qSet : List (Option Value) → Nat → Value → List (Option Value)
  | [], 0, v => [some v]
  | [], k + 1, v => none :: qSet [] k v
  | _ :: r, 0, v => some v :: r
  | c :: r, 1, v => (bif isJ c then none else c) :: qSet r 0 v
  | c :: r, k + 2, v => c :: qSet r (k + 1) v
theorem qSet_eq : ∀ (L : List (Option Value)) (k : Nat) (v : Value), lAt (qSet L k v) k = some (some v)
  | [], 0, v => rfl
  | [], k + 1, v => qSet_eq [] k v
  | _ :: r, 0, v => rfl
  | c :: r, 1, v => qSet_eq r 0 v
  | c :: r, k + 2, v => qSet_eq r (k + 1) v
theorem isJ_cat {v : Value} (h : isJ (some v) = false) : v.category = 1 := by
  cases v <;> first | rfl | cases h
theorem qSet_ne : ∀ (L : List (Option Value)) (k j : Nat) (v u : Value), ¬ j = k → lAt (qSet L k v) j = some (some u) → lAt L j = some (some u) ∧ (j + 1 = k → u.category = 1)
  | [], 0, 0, v, u, h, _ => absurd rfl h
  | [], 0, j + 1, v, u, _, e => by cases e
  | [], k + 1, 0, v, u, _, e => by cases e
  | [], k + 1, j + 1, v, u, h, e => by
    have := (qSet_ne [] k j v u (fun z => h (by rw [z])) e).1
    cases this
  | _ :: r, 0, 0, v, u, h, _ => absurd rfl h
  | _ :: r, 0, j + 1, v, u, _, e => ⟨e, fun z => by omega⟩
  | c :: r, 1, 0, v, u, _, e => by
    cases hc : isJ c with
    | true =>
      have e : (bif isJ c then none else c) = some u := Option.some.inj e
      rw [hc] at e
      cases e
    | false =>
      have e : (bif isJ c then none else c) = some u := Option.some.inj e
      rw [hc] at e
      have e : c = some u := e
      subst e
      exact ⟨rfl, fun _ => isJ_cat hc⟩
  | c :: r, 1, j + 1, v, u, h, e => by
    obtain ⟨g1, g2⟩ := qSet_ne r 0 j v u (fun z => h (by rw [z])) e
    exact ⟨g1, fun z => by omega⟩
  | c :: r, k + 2, 0, v, u, _, e => ⟨e, fun z => by omega⟩
  | c :: r, k + 2, j + 1, v, u, h, e => by
    obtain ⟨g1, g2⟩ := qSet_ne r (k + 1) j v u (fun z => h (by rw [z])) e
    exact ⟨g1, fun z => g2 (by omega)⟩
/-- a long laid: its second place is unknown -/
def qNo : List (Option Value) → Nat → List (Option Value)
  | [], _ => []
  | _ :: r, 0 => none :: r
  | c :: r, k + 1 => c :: qNo r k
theorem qNo_ne : ∀ (L : List (Option Value)) (k j : Nat) (u : Value), lAt (qNo L k) j = some (some u) → ¬ j = k ∧ lAt L j = some (some u)
  | [], k, j, u, e => by cases e
  | _ :: r, 0, 0, u, e => by cases e
  | _ :: r, 0, j + 1, u, e => ⟨by omega, e⟩
  | c :: r, k + 1, 0, u, e => ⟨by omega, e⟩
  | c :: r, k + 1, j + 1, u, e => by
    obtain ⟨g1, g2⟩ := qNo_ne r k j u e
    exact ⟨by omega, g2⟩
def qSet2 (L : List (Option Value)) (k : Nat) (v : Value) : List (Option Value) := qNo (qSet L k v) (k + 1)
def lq (cl : amL) (L : List (Option Value)) : Prop := amOkL 84 cl = true ∧ ∀ k v, lAt L k = some (some v) → True ∧ amGet cl k = some v
theorem mq_ne {cl : amL} {i j : Nat} {v w : Value} (h : amGet cl j = some w) (hw : j + 1 = i → w.category = 1) (hij : ¬ i = j) : amGet (amSet1 cl i v) j = some w := by
  unfold amSet1
  unfold amGet
  rw [if_neg hij]
  induction cl with
  | nil => cases h
  | cons q r ih =>
    unfold amGet at h
    by_cases e : q.1 = j
    · rw [if_pos e] at h
      have h := Option.some.inj h
      have z : (!(q.1 == i) && !(q.1 + 1 == i && q.2.category == 2)) = true := by
        rw [h, e]
        by_cases g : j + 1 = i
        · simp [Ne.symm hij, hw g]
        · simp [Ne.symm hij, g]
      simp only [List.filter_cons, z, if_true]
      unfold amGet
      rw [if_pos e, h]
    · rw [if_neg e] at h
      by_cases z : (!(q.1 == i) && !(q.1 + 1 == i && q.2.category == 2)) = true
      · simp only [List.filter_cons, z, if_true]
        unfold amGet
        rw [if_neg e]
        exact ih h
      · simp only [List.filter_cons, z, if_false]
        exact ih h
theorem mq_ne2 {cl : amL} {i j : Nat} {v w : Value} (h : amGet cl j = some w) (hw : j + 1 = i → w.category = 1) (hij : ¬ i = j) (hij2 : ¬ i + 1 = j) : amGet (amSet2 cl i v) j = some w := by
  unfold amSet2
  unfold amGet
  rw [if_neg hij]
  induction cl with
  | nil => cases h
  | cons q r ih =>
    unfold amGet at h
    by_cases e : q.1 = j
    · rw [if_pos e] at h
      have h := Option.some.inj h
      have z : (!(q.1 == i) && (!(q.1 == i + 1) && !(q.1 + 1 == i && q.2.category == 2))) = true := by
        rw [h, e]
        by_cases g : j + 1 = i
        · simp [Ne.symm hij, Ne.symm hij2, hw g]
        · simp [Ne.symm hij, Ne.symm hij2, g]
      simp only [List.filter_cons, z, if_true]
      unfold amGet
      rw [if_pos e, h]
    · rw [if_neg e] at h
      by_cases z : (!(q.1 == i) && (!(q.1 == i + 1) && !(q.1 + 1 == i && q.2.category == 2))) = true
      · simp only [List.filter_cons, z, if_true]
        unfold amGet
        rw [if_neg e]
        exact ih h
      · simp only [List.filter_cons, z, if_false]
        exact ih h
theorem mokV {n i : Nat} {cl : amL} {v : Value} (h : amOkL n cl = true) (hv : amOk n v = true) : amOkL n (amSet1 cl i v) = true := by
  unfold amOkL amSet1 at *
  rw [List.all_cons]
  refine Bool.and_eq_true_iff.mpr ⟨hv, ?_⟩
  rw [List.all_eq_true] at h ⊢
  exact fun q hq => h q (List.mem_filter.mp hq).1
theorem mokJ {n i : Nat} {cl : amL} {v : Value} (h : amOkL n cl = true) (hv : amOk n v = true) : amOkL n (amSet2 cl i v) = true := by
  unfold amOkL amSet2 at *
  rw [List.all_cons]
  refine Bool.and_eq_true_iff.mpr ⟨hv, ?_⟩
  rw [List.all_eq_true] at h ⊢
  exact fun q hq => h q (List.mem_filter.mp hq).1
theorem lq_setV {cl : amL} {L : List (Option Value)} (h : lq cl L) (k : Nat) {x : Value} (hx : amOk 84 x = true) : lq (amSet1 cl k x) (qSet L k x) := by
  refine ⟨mokV h.1 hx, fun j v e => ⟨trivial, ?_⟩⟩
  by_cases hj : j = k
  · subst hj
    rw [qSet_eq] at e
    cases e
    exact mg_eq
  · obtain ⟨g1, g2⟩ := qSet_ne L k j _ v hj e
    exact mq_ne (h.2 j v g1).2 g2 (fun z => hj z.symm)
theorem lq_set {cl : amL} {L : List (Option Value)} (h : lq cl L) (k : Nat) (x : Int32) : lq (amSet1 cl k (.int x)) (qSet L k (.int x)) := lq_setV h k rfl
theorem lq_set2 {cl : amL} {L : List (Option Value)} (h : lq cl L) (k : Nat) {x : Value} (hx : amOk 84 x = true) : lq (amSet2 cl k x) (qSet2 L k x) := by
  refine ⟨mokJ h.1 hx, fun j v e => ⟨trivial, ?_⟩⟩
  obtain ⟨g0, e⟩ := qNo_ne _ _ _ _ e
  by_cases hj : j = k
  · subst hj
    rw [qSet_eq] at e
    cases e
    unfold amSet2
    unfold amGet
    rw [if_pos rfl]
  · obtain ⟨g1, g2⟩ := qSet_ne L k j _ v hj e
    exact mq_ne2 (h.2 j v g1).2 g2 (fun z => hj z.symm) (fun z => g0 z.symm)
theorem lq_less {cl : amL} {L L1 : List (Option Value)} (h : lq cl L) (hl : ∀ k v, lAt L1 k = some (some v) → lAt L k = some (some v)) : lq cl L1 := ⟨h.1, fun k v e => h.2 k v (hl k v e)⟩
abbrev xQ : Type := (Option Value ⊕ Nat) → amH → Prop
def xV (d : Nat) (M : amM) (pc : Nat) (L : List (Option Value)) (st : List Value) (hp : amH) (Q : xQ) : Prop := ∀ cl, lq cl L → bWp amGG d M (amSeek M.1 pc) pc cl st hp Q
theorem xI_suf {M : amM} {pc : Nat} {q : Nat × amIn1} {r : amP} (h : amSeek M.1 pc = q :: r) : r <:+ M.1 := by
  have h1 : amSeek M.1 pc <:+ M.1 := List.dropWhile_suffix _
  rw [h] at h1
  exact (List.suffix_cons q r).trans h1
theorem xstep {M : amM} {pc : Nat} {i : Instr} {a b d q : Nat} {L L1 : List (Option Value)} {st st1 : List Value} {hp hp1 : amH} {Q : xQ} (h : xI M pc i a b)
    (hs : ∀ cl, lq cl L → ∃ cl1, amDo amGG M none i a b pc cl st hp = some (.inl ((q, cl1, st1, hp1), 0, 0)) ∧ lq cl1 L1) (hw : xV d M q L1 st1 hp1 Q) : xV d M pc L st hp Q := by
  intro cl hl
  obtain ⟨hu, r, hr⟩ := h
  obtain ⟨cl1, e, hl1⟩ := hs cl hl
  rw [hr]
  refine bWp_step (q := (pc, i, a, b)) e ?_
  rw [bUp_next hu (xI_suf hr)]
  exact hw cl1 hl1
theorem xdrop {M : amM} {pc d : Nat} {L L1 : List (Option Value)} {st : List Value} {hp : amH} {Q : xQ} (hl : ∀ k v, lAt L1 k = some (some v) → lAt L k = some (some v)) (hw : xV d M pc L1 st hp Q) : xV d M pc L st hp Q :=
  fun cl h => hw cl (lq_less h hl)
section XR
variable {M : amM} {pc a b d : Nat} {L : List (Option Value)} {st : List Value} {hp : amH} {Q : xQ}
theorem xld (q : Nat) {i : Instr} {k : Nat} {x : Int32} (h : xI M pc i a b) (hi : (i = .iload k ∧ q = pc + 2) ∨ (∃ n : Fin 4, i = .iload_n n ∧ n = k ∧ q = pc + 1)) (l : lAt L k = some (some (.int x))) (hw : xV d M q L (.int x :: st) hp Q) : xV d M pc L st hp Q := by
  refine xstep h (fun cl hl => ⟨cl, ?_, hl⟩) hw
  have hg := (hl.2 k _ l).2
  rcases hi with ⟨rfl, rfl⟩ | ⟨n, rfl, rfl, rfl⟩
  · simp [amDo, amStep, amLd, hg, isI_int]
  · simp [amDo, amStep, amLd, hg, isI_int]
theorem xild (q : Nat) {n : Fin 4} {x : Int32} (h : xI M pc (.iload_n n) a b) (e : q = pc + 1) (l : lAt L (n : Nat) = some (some (.int x))) (hw : xV d M q L (.int x :: st) hp Q) : xV d M pc L st hp Q :=
  xld q h (Or.inr ⟨n, rfl, rfl, e⟩) l hw
theorem xild2 (q : Nat) {k : Nat} {x : Int32} (h : xI M pc (.iload k) a b) (e : q = pc + 2) (l : lAt L k = some (some (.int x))) (hw : xV d M q L (.int x :: st) hp Q) : xV d M pc L st hp Q :=
  xld q h (Or.inl ⟨rfl, e⟩) l hw
theorem xald (q : Nat) {n : Fin 4} {x : Nat} (h : xI M pc (.aload_n n) a b) (e : q = pc + 1) (l : lAt L (n : Nat) = some (some (.ref x))) (hw : xV d M q L (.ref x :: st) hp Q) : xV d M pc L st hp Q := by
  refine xstep h (fun cl hl => ⟨cl, ?_, hl⟩) hw
  have hg := (hl.2 _ _ l).2
  subst e
  simp [amDo, amStep, amLd, hg, isA_ref]
theorem xcst (q : Nat) (m : Int) {n : Int} (h : xI M pc (.iconst n) a b) (e : q = pc + 1) (hm : (Int32.ofInt n).toInt = m) (hw : ∀ z : Int32, z.toInt = m → xV d M q L (.int z :: st) hp Q) : xV d M pc L st hp Q := by
  refine xstep h (fun cl hl => ⟨cl, ?_, hl⟩) (hw _ hm)
  subst e
  simp [amDo, amStep]
theorem xbip (q : Nat) (m : Int) {n : Int} (h : xI M pc (.bipush n) a b) (e : q = pc + 2) (hm : (Int8.ofInt n).toInt32.toInt = m) (hw : ∀ z : Int32, z.toInt = m → xV d M q L (.int z :: st) hp Q) : xV d M pc L st hp Q := by
  refine xstep h (fun cl hl => ⟨cl, ?_, hl⟩) (hw _ hm)
  subst e
  simp [amDo, amStep]
theorem xsip (q : Nat) (m : Int) {n : Int} (h : xI M pc (.sipush n) a b) (e : q = pc + 3) (hm : (Int16.ofInt n).toInt32.toInt = m) (hw : ∀ z : Int32, z.toInt = m → xV d M q L (.int z :: st) hp Q) : xV d M pc L st hp Q := by
  refine xstep h (fun cl hl => ⟨cl, ?_, hl⟩) (hw _ hm)
  subst e
  simp [amDo, amStep]
theorem xst (q : Nat) {i : Instr} {k : Nat} {x : Int32} (h : xI M pc i a b) (hi : (i = .istore k ∧ q = pc + 2) ∨ (∃ n : Fin 4, i = .istore_n n ∧ n = k ∧ q = pc + 1)) (hk : Nat.ble (k + 1) M.2.1 = true) (hw : xV d M q (qSet L k (.int x)) st hp Q) : xV d M pc L (.int x :: st) hp Q := by
  refine xstep h (fun cl hl => ⟨amSet1 cl k (.int x), ?_, lq_set hl k x⟩) hw
  have hk : k < M.2.1 := Nat.le_of_ble_eq_true hk
  rcases hi with ⟨rfl, rfl⟩ | ⟨n, rfl, rfl, rfl⟩
  · simp [amDo, amStep, amSt1, isI_int, hk]
  · simp [amDo, amStep, amSt1, isI_int, hk]
theorem xist (q : Nat) {n : Fin 4} {x : Int32} (h : xI M pc (.istore_n n) a b) (e : q = pc + 1) (hk : Nat.ble ((n : Nat) + 1) M.2.1 = true) (hw : xV d M q (qSet L (n : Nat) (.int x)) st hp Q) : xV d M pc L (.int x :: st) hp Q :=
  xst q h (Or.inr ⟨n, rfl, rfl, e⟩) hk hw
theorem xist2 (q : Nat) {k : Nat} {x : Int32} (h : xI M pc (.istore k) a b) (e : q = pc + 2) (hk : Nat.ble (k + 1) M.2.1 = true) (hw : xV d M q (qSet L k (.int x)) st hp Q) : xV d M pc L (.int x :: st) hp Q :=
  xst q h (Or.inl ⟨rfl, e⟩) hk hw
theorem xinc (q : Nat) (m : Int) {k : Nat} {n : Int} {x : Int32} (h : xI M pc (.iinc k n) a b) (e : q = pc + 3) (hk : Nat.ble (k + 1) M.2.1 = true) (l : lAt L k = some (some (.int x))) (hm : (Int32.ofInt n).toInt = m) (h1 : -2147483648 ≤ x.toInt + m) (h2 : x.toInt + m ≤ 2147483647) (hw : ∀ z : Int32, z.toInt = x.toInt + m → xV d M q (qSet L k (.int z)) st hp Q) : xV d M pc L st hp Q := by
  have hk : k < M.2.1 := Nat.le_of_ble_eq_true hk
  refine xstep h (fun cl hl => ⟨amSet1 cl k (.int (x + Int32.ofInt n)), ?_, lq_set hl k _⟩) (hw _ (by rw [Int32.toInt_add, hm, aBmod h1 h2]))
  have hg := (hl.2 k _ l).2
  subst e
  simp [amDo, amStep, amInc, hg, hk]
theorem xdup (q : Nat) {v : Value} (h : xI M pc .dup a b) (e : q = pc + 1) (hv : v.category = 1) (hw : xV d M q L (v :: v :: st) hp Q) : xV d M pc L (v :: st) hp Q := by
  refine xstep h (fun cl hl => ⟨cl, ?_, hl⟩) hw
  subst e
  simp [amDo, amStep, hv]
theorem xdup2 (q : Nat) {v w : Value} (h : xI M pc .dup2 a b) (e : q = pc + 1) (hv : v.category = 1) (hv2 : w.category = 1) (hw : xV d M q L (v :: w :: v :: w :: st) hp Q) : xV d M pc L (v :: w :: st) hp Q := by
  refine xstep h (fun cl hl => ⟨cl, ?_, hl⟩) hw
  subst e
  simp [amDo, amStep, hv, hv2]
theorem xpop (q : Nat) {v : Value} (h : xI M pc .pop a b) (e : q = pc + 1) (hv : v.category = 1) (hw : xV d M q L st hp Q) : xV d M pc L (v :: st) hp Q := by
  refine xstep h (fun cl hl => ⟨cl, ?_, hl⟩) hw
  subst e
  simp [amDo, amStep, hv]
theorem xadd (q : Nat) (m : Int) {x y : Int32} (h : xI M pc .iadd a b) (e : q = pc + 1) (hm : x.toInt + y.toInt = m) (h1 : -2147483648 ≤ m) (h2 : m ≤ 2147483647) (hw : ∀ z : Int32, z.toInt = m → xV d M q L (.int z :: st) hp Q) : xV d M pc L (.int y :: .int x :: st) hp Q := by
  subst hm
  refine xstep h (fun cl hl => ⟨cl, ?_, hl⟩) (hw (x + y) (by rw [Int32.toInt_add, aBmod h1 h2]))
  subst e
  simp [amDo, amStep, amII]
theorem xsub (q : Nat) (m : Int) {x y : Int32} (h : xI M pc .isub a b) (e : q = pc + 1) (hm : x.toInt - y.toInt = m) (h1 : -2147483648 ≤ m) (h2 : m ≤ 2147483647) (hw : ∀ z : Int32, z.toInt = m → xV d M q L (.int z :: st) hp Q) : xV d M pc L (.int y :: .int x :: st) hp Q := by
  subst hm
  refine xstep h (fun cl hl => ⟨cl, ?_, hl⟩) (hw (x - y) (by rw [Int32.toInt_sub, aBmod h1 h2]))
  subst e
  simp [amDo, amStep, amII]
theorem xmul (q : Nat) (m : Int) {x y : Int32} (h : xI M pc .imul a b) (e : q = pc + 1) (hm : x.toInt * y.toInt = m) (h1 : -2147483648 ≤ m) (h2 : m ≤ 2147483647) (hw : ∀ z : Int32, z.toInt = m → xV d M q L (.int z :: st) hp Q) : xV d M pc L (.int y :: .int x :: st) hp Q := by
  subst hm
  refine xstep h (fun cl hl => ⟨cl, ?_, hl⟩) (hw (x * y) (by rw [Int32.toInt_mul, aBmod h1 h2]))
  subst e
  simp [amDo, amStep, amII]
theorem xand (q : Nat) {x y : Int32} (h : xI M pc .iand a b) (e : q = pc + 1) (hw : xV d M q L (.int (x &&& y) :: st) hp Q) : xV d M pc L (.int y :: .int x :: st) hp Q := by
  refine xstep h (fun cl hl => ⟨cl, ?_, hl⟩) hw
  subst e
  simp [amDo, amStep, amII]
theorem xor_ (q : Nat) {x y : Int32} (h : xI M pc .ior a b) (e : q = pc + 1) (hw : xV d M q L (.int (x ||| y) :: st) hp Q) : xV d M pc L (.int y :: .int x :: st) hp Q := by
  refine xstep h (fun cl hl => ⟨cl, ?_, hl⟩) hw
  subst e
  simp [amDo, amStep, amII]
theorem xxor (q : Nat) {x y : Int32} (h : xI M pc .ixor a b) (e : q = pc + 1) (hw : xV d M q L (.int (x ^^^ y) :: st) hp Q) : xV d M pc L (.int y :: .int x :: st) hp Q := by
  refine xstep h (fun cl hl => ⟨cl, ?_, hl⟩) hw
  subst e
  simp [amDo, amStep, amII]
theorem xshl (q : Nat) {x y : Int32} (h : xI M pc .ishl a b) (e : q = pc + 1) (hw : xV d M q L (.int (x <<< (y &&& 31)) :: st) hp Q) : xV d M pc L (.int y :: .int x :: st) hp Q := by
  refine xstep h (fun cl hl => ⟨cl, ?_, hl⟩) hw
  subst e
  simp [amDo, amStep, amII]
theorem xshr (q : Nat) {x y : Int32} (h : xI M pc .ishr a b) (e : q = pc + 1) (hw : xV d M q L (.int (x >>> (y &&& 31)) :: st) hp Q) : xV d M pc L (.int y :: .int x :: st) hp Q := by
  refine xstep h (fun cl hl => ⟨cl, ?_, hl⟩) hw
  subst e
  simp [amDo, amStep, amII]
/-- quotient and rest, of numbers that are not below 0 -/
theorem xdiv_t {x y : Int32} (hx : 0 ≤ x.toInt) (hy : 0 < y.toInt) : (x / y).toInt = x.toInt / y.toInt := by
  rw [Int32.toInt_div, Int.tdiv_eq_ediv_of_nonneg hx]
  have h1 := Int.ediv_nonneg hx (Int.le_of_lt hy)
  have h2 := Int.ediv_le_self y.toInt hx
  have h3 := aMax x
  exact aBmod (by omega) (by omega)
theorem xdiv (q : Nat) (m : Int) {x y : Int32} (h : xI M pc .idiv a b) (e : q = pc + 1) (hx : 0 ≤ x.toInt) (hy : 0 < y.toInt) (hm : x.toInt / y.toInt = m) (hw : ∀ z : Int32, z.toInt = m → xV d M q L (.int z :: st) hp Q) : xV d M pc L (.int y :: .int x :: st) hp Q := by
  subst hm
  have hy0 : ¬ y = 0 := fun z => by rw [z] at hy; exact absurd hy (by decide)
  refine xstep h (fun cl hl => ⟨cl, ?_, hl⟩) (hw (x / y) (xdiv_t hx hy))
  subst e
  simp [amDo, amStep, amDiv, hy0]
theorem xrem (q : Nat) (m : Int) {x y : Int32} (h : xI M pc .irem a b) (e : q = pc + 1) (hx : 0 ≤ x.toInt) (hy : 0 < y.toInt) (hm : x.toInt % y.toInt = m) (hw : ∀ z : Int32, z.toInt = m → xV d M q L (.int z :: st) hp Q) : xV d M pc L (.int y :: .int x :: st) hp Q := by
  subst hm
  have hy0 : ¬ y = 0 := fun z => by rw [z] at hy; exact absurd hy (by decide)
  refine xstep h (fun cl hl => ⟨cl, ?_, hl⟩) (hw (x - x / y * y) (by rw [rem_toInt, Int.tmod_eq_emod_of_nonneg hx]))
  subst e
  simp [amDo, amStep, amDiv, hy0]
theorem xgoto {i : Int} (h : xI M pc (.goto i) a b) (hw : xV d M a L st hp Q) : xV d M pc L st hp Q := by
  refine xstep h (fun cl hl => ⟨cl, ?_, hl⟩) hw
  simp [amDo, amStep]
theorem xif (q : Nat) {c : Jvm.ClassFile.Cond} {i : Int} {x : Int32} (h : xI M pc (.ifCond c i) a b) (e : q = pc + 3) (hw1 : amIfP c x = true → xV d M a L st hp Q) (hw2 : amIfP c x = false → xV d M q L st hp Q) : xV d M pc L (.int x :: st) hp Q := by
  subst e
  cases hc : amIfP c x
  · refine xstep h (fun cl hl => ⟨cl, ?_, hl⟩) (hw2 hc)
    simp [amDo, amStep, amIf, hc]
  · refine xstep h (fun cl hl => ⟨cl, ?_, hl⟩) (hw1 hc)
    simp [amDo, amStep, amIf, hc]
theorem xcmp (q : Nat) {c : Jvm.ClassFile.Cond} {i : Int} {x y : Int32} (h : xI M pc (.if_icmp c i) a b) (e : q = pc + 3) (hw1 : amCmpP c x y = true → xV d M a L st hp Q) (hw2 : amCmpP c x y = false → xV d M q L st hp Q) : xV d M pc L (.int y :: .int x :: st) hp Q := by
  subst e
  cases hc : amCmpP c x y
  · refine xstep h (fun cl hl => ⟨cl, ?_, hl⟩) (hw2 hc)
    simp [amDo, amStep, amCmp, hc]
  · refine xstep h (fun cl hl => ⟨cl, ?_, hl⟩) (hw1 hc)
    simp [amDo, amStep, amCmp, hc]
end XR
theorem x_eq {x y : Int32} : x = y ↔ x.toInt = y.toInt := ⟨fun h => by rw [h], fun h => Int32.toInt_inj.mp h⟩
section XB
variable {M : amM} {pc a b d : Nat} {L : List (Option Value)} {st : List Value} {hp : amH} {Q : xQ} {x y : Int32} {i : Int}
theorem z_if {c : Jvm.ClassFile.Cond} {p : Int → Prop} (hp : ∀ x : Int32, amIfP c x = true ↔ p x.toInt) {x : Int32} : (amIfP c x = true → p x.toInt) ∧ (amIfP c x = false → ¬ p x.toInt) := ⟨fun h => (hp x).mp h, fun h z => by rw [(hp x).mpr z] at h; cases h⟩
theorem z_cmp {c : Jvm.ClassFile.Cond} {p : Int → Int → Prop} (hp : ∀ x y : Int32, amCmpP c x y = true ↔ p x.toInt y.toInt) {x y : Int32} : (amCmpP c x y = true → p x.toInt y.toInt) ∧ (amCmpP c x y = false → ¬ p x.toInt y.toInt) := ⟨fun h => (hp x y).mp h, fun h z => by rw [(hp x y).mpr z] at h; cases h⟩
theorem xif_eq (q : Nat) (h : xI M pc (.ifCond .eq i) a b) (e : q = pc + 3) (hw1 : x.toInt = 0 → xV d M a L st hp Q) (hw2 : ¬ x.toInt = 0 → xV d M q L st hp Q) : xV d M pc L (.int x :: st) hp Q :=
  have z := z_if (c := .eq) (p := fun x => x = 0) (fun x => by simp only [amIfP, decide_eq_true_eq]; rw [x_eq]; rfl) (x := x)
  xif q h e (fun u => hw1 (z.1 u)) (fun u => hw2 (z.2 u))
theorem xif_ne (q : Nat) (h : xI M pc (.ifCond .ne i) a b) (e : q = pc + 3) (hw1 : ¬ x.toInt = 0 → xV d M a L st hp Q) (hw2 : x.toInt = 0 → xV d M q L st hp Q) : xV d M pc L (.int x :: st) hp Q :=
  have z := z_if (c := .ne) (p := fun x => ¬ x = 0) (fun x => by simp only [amIfP, decide_eq_true_eq]; rw [x_eq]; rfl) (x := x)
  xif q h e (fun u => hw1 (z.1 u)) (fun u => hw2 (Decidable.not_not.mp (z.2 u)))
theorem xif_lt (q : Nat) (h : xI M pc (.ifCond .lt i) a b) (e : q = pc + 3) (hw1 : x.toInt < 0 → xV d M a L st hp Q) (hw2 : ¬ x.toInt < 0 → xV d M q L st hp Q) : xV d M pc L (.int x :: st) hp Q :=
  have z := z_if (c := .lt) (p := fun x => x < 0) (fun x => by simp only [amIfP, decide_eq_true_eq]; rw [Int32.lt_iff_toInt_lt]; rfl) (x := x)
  xif q h e (fun u => hw1 (z.1 u)) (fun u => hw2 (z.2 u))
theorem xif_ge (q : Nat) (h : xI M pc (.ifCond .ge i) a b) (e : q = pc + 3) (hw1 : 0 ≤ x.toInt → xV d M a L st hp Q) (hw2 : ¬ 0 ≤ x.toInt → xV d M q L st hp Q) : xV d M pc L (.int x :: st) hp Q :=
  have z := z_if (c := .ge) (p := fun x => 0 ≤ x) (fun x => by simp only [amIfP, decide_eq_true_eq]; rw [Int32.le_iff_toInt_le]; rfl) (x := x)
  xif q h e (fun u => hw1 (z.1 u)) (fun u => hw2 (z.2 u))
theorem xif_le (q : Nat) (h : xI M pc (.ifCond .le i) a b) (e : q = pc + 3) (hw1 : x.toInt ≤ 0 → xV d M a L st hp Q) (hw2 : ¬ x.toInt ≤ 0 → xV d M q L st hp Q) : xV d M pc L (.int x :: st) hp Q :=
  have z := z_if (c := .le) (p := fun x => x ≤ 0) (fun x => by simp only [amIfP, decide_eq_true_eq]; rw [Int32.le_iff_toInt_le]; rfl) (x := x)
  xif q h e (fun u => hw1 (z.1 u)) (fun u => hw2 (z.2 u))
theorem xcmp_eq (q : Nat) (h : xI M pc (.if_icmp .eq i) a b) (e : q = pc + 3) (hw1 : x.toInt = y.toInt → xV d M a L st hp Q) (hw2 : ¬ x.toInt = y.toInt → xV d M q L st hp Q) : xV d M pc L (.int y :: .int x :: st) hp Q :=
  have z := z_cmp (c := .eq) (p := fun x y => x = y) (fun x y => by simp only [amCmpP, decide_eq_true_eq]; exact x_eq) (x := x) (y := y)
  xcmp q h e (fun u => hw1 (z.1 u)) (fun u => hw2 (z.2 u))
theorem xcmp_ne (q : Nat) (h : xI M pc (.if_icmp .ne i) a b) (e : q = pc + 3) (hw1 : ¬ x.toInt = y.toInt → xV d M a L st hp Q) (hw2 : x.toInt = y.toInt → xV d M q L st hp Q) : xV d M pc L (.int y :: .int x :: st) hp Q :=
  have z := z_cmp (c := .ne) (p := fun x y => ¬ x = y) (fun x y => by simp only [amCmpP, decide_eq_true_eq]; rw [x_eq]) (x := x) (y := y)
  xcmp q h e (fun u => hw1 (z.1 u)) (fun u => hw2 (Decidable.not_not.mp (z.2 u)))
theorem xcmp_lt (q : Nat) (h : xI M pc (.if_icmp .lt i) a b) (e : q = pc + 3) (hw1 : x.toInt < y.toInt → xV d M a L st hp Q) (hw2 : ¬ x.toInt < y.toInt → xV d M q L st hp Q) : xV d M pc L (.int y :: .int x :: st) hp Q :=
  have z := z_cmp (c := .lt) (p := fun x y => x < y) (fun x y => by simp only [amCmpP, decide_eq_true_eq]; exact Int32.lt_iff_toInt_lt) (x := x) (y := y)
  xcmp q h e (fun u => hw1 (z.1 u)) (fun u => hw2 (z.2 u))
theorem xcmp_ge (q : Nat) (h : xI M pc (.if_icmp .ge i) a b) (e : q = pc + 3) (hw1 : y.toInt ≤ x.toInt → xV d M a L st hp Q) (hw2 : ¬ y.toInt ≤ x.toInt → xV d M q L st hp Q) : xV d M pc L (.int y :: .int x :: st) hp Q :=
  have z := z_cmp (c := .ge) (p := fun x y => y ≤ x) (fun x y => by simp only [amCmpP, decide_eq_true_eq]; exact Int32.le_iff_toInt_le) (x := x) (y := y)
  xcmp q h e (fun u => hw1 (z.1 u)) (fun u => hw2 (z.2 u))
theorem xcmp_gt (q : Nat) (h : xI M pc (.if_icmp .gt i) a b) (e : q = pc + 3) (hw1 : y.toInt < x.toInt → xV d M a L st hp Q) (hw2 : ¬ y.toInt < x.toInt → xV d M q L st hp Q) : xV d M pc L (.int y :: .int x :: st) hp Q :=
  have z := z_cmp (c := .gt) (p := fun x y => y < x) (fun x y => by simp only [amCmpP, decide_eq_true_eq]; exact Int32.lt_iff_toInt_lt) (x := x) (y := y)
  xcmp q h e (fun u => hw1 (z.1 u)) (fun u => hw2 (z.2 u))
theorem xcmp_le (q : Nat) (h : xI M pc (.if_icmp .le i) a b) (e : q = pc + 3) (hw1 : x.toInt ≤ y.toInt → xV d M a L st hp Q) (hw2 : ¬ x.toInt ≤ y.toInt → xV d M q L st hp Q) : xV d M pc L (.int y :: .int x :: st) hp Q :=
  have z := z_cmp (c := .le) (p := fun x y => x ≤ y) (fun x y => by simp only [amCmpP, decide_eq_true_eq]; exact Int32.le_iff_toInt_le) (x := x) (y := y)
  xcmp q h e (fun u => hw1 (z.1 u)) (fun u => hw2 (z.2 u))
end XB
