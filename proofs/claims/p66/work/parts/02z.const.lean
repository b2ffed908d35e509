/-! ===== constants of the JDK: they are read, nobody writes them ===== -/
/-- a value among the constants, over the machine -/
def amVk (sA : Nat → Nat) : Value → Value
  | .ref i => .ref (sA (i - amK))
  | v => v
def amStN : Nat → Option (String × String × String)
  | 0 => some ("java/util/ArrayList", "DEFAULTCAPACITY_EMPTY_ELEMENTDATA", "[Ljava/lang/Object;")
  | 1 => some ("java/lang/Integer$IntegerCache", "cache", "[Ljava/lang/Integer;")
  | 2 => some ("java/lang/Integer$IntegerCache", "high", "I")
  | 3 => some ("java/lang/String", "COMPACT_STRINGS", "Z")
  | 4 => some ("java/lang/Integer", "DigitTens", "[B")
  | 5 => some ("java/lang/Integer", "DigitOnes", "[B")
  | _ => none
/-- the script, read by a method -/
def amSp (sc : Option (List Int32)) (sA : Nat → Nat) (A : Nat → Prop) (U : State) (H : Heap) : Prop := ∀ l9, sc = some l9 → va_X (sA 999999) l9.length (fun j => l9.getD j 0) U H ∧ sA 999999 < H.size ∧ ¬ A (sA 999999)
def amZk (sA : Nat → Nat) (A : Nat → Prop) (U : State) (H : Heap) : Prop :=
  vb_C (fun j => sA (300 + j)) A U H ∧
  (∃ f, va_T (.object "java/lang/Object") (sA 200) 0 f A U H) ∧
  va_T (.object "java/lang/Integer") (sA 201) 256 (fun j => .ref (sA (300 + j))) A U H ∧
  (∀ w ∈ amKby, va_T .byte (sA w.1) w.2.length (fun j => .int (w.2.getD j 0)) A U H) ∧
  (∀ w ∈ amKw, va_O "java/lang/String" (sA w.1) A U H ∧ va_OF "java/lang/String" "value" "[B" (.ref (sA (100 + w.1))) (sA w.1) A U H ∧ va_OF "java/lang/String" "coder" "B" (.int 0) (sA w.1) A U H) ∧
  (∀ a q v, amStN a = some q → amSta a = some v → va_Z q.1 q.2.1 q.2.2 (amVk sA v) A U H)
theorem amSp.moved {sc : Option (List Int32)} {sA : Nat → Nat} {A : Nat → Prop} {u U : State} {H : Heap} (hvm : u.vm.Alike U.vm) (h : amSp sc sA A u H) : amSp sc sA A U H := fun l9 e => ⟨va_X.moved hvm (h l9 e).1, (h l9 e).2⟩
theorem amSp.narrow {sc : Option (List Int32)} {sA : Nat → Nat} {A B : Nat → Prop} {U : State} {H : Heap} (h : amSp sc sA A U H) (hAB : ∀ q, B q → A q) : amSp sc sA B U H := fun l9 e => ⟨(h l9 e).1, (h l9 e).2.1, fun z => (h l9 e).2.2 (hAB _ z)⟩
theorem amSp.kept {sc : Option (List Int32)} {sA : Nat → Nat} {A : Nat → Prop} {U : State} {H H1 : Heap} (h : amSp sc sA A U H) (hz : H.size ≤ H1.size) (hq : ∀ a : Nat, a < H.size → ¬ A a → H1[a]? = H[a]?) : amSp sc sA A U H1 := fun l9 e => ⟨va_X.kept (h l9 e).1 (hq _ (h l9 e).2.1 (h l9 e).2.2), Nat.lt_of_lt_of_le (h l9 e).2.1 hz, (h l9 e).2.2⟩
theorem amZk.moved {sA : Nat → Nat} {A : Nat → Prop} {u U : State} {H : Heap} (hvm : u.vm.Alike U.vm) (h : amZk sA A u H) : amZk sA A U H := by
  obtain ⟨h1, ⟨f, h2⟩, h3, h4, h5, h6⟩ := h
  exact ⟨vb_C.moved hvm h1, ⟨f, va_T.moved hvm h2⟩, va_T.moved hvm h3, fun w hw => va_T.moved hvm (h4 w hw), fun w hw => ⟨va_O.moved hvm (h5 w hw).1, va_OF.moved hvm (h5 w hw).2.1, va_OF.moved hvm (h5 w hw).2.2⟩, fun a q v e1 e2 => va_Z.moved hvm (h6 a q v e1 e2)⟩
theorem amZk.kept {sA : Nat → Nat} {A : Nat → Prop} {U : State} {H H1 : Heap} (h : amZk sA A U H) (hq : ∀ a : Nat, a < H.size → ¬ A a → H1[a]? = H[a]?) : amZk sA A U H1 := by
  obtain ⟨h1, ⟨f, h2⟩, h3, h4, h5, h6⟩ := h
  exact ⟨h1.kept hq, ⟨f, h2.kept hq⟩, h3.kept hq, fun w hw => (h4 w hw).kept hq, fun w hw => ⟨(h5 w hw).1.kept hq, (h5 w hw).2.1.kept hq, (h5 w hw).2.2.kept hq⟩, fun a q v e1 e2 => (h6 a q v e1 e2).kept hq⟩
theorem amZk.narrow {sA : Nat → Nat} {A B : Nat → Prop} {U : State} {H : Heap} (h : amZk sA A U H) (hAB : ∀ q, B q → A q) : amZk sA B U H := by
  obtain ⟨h1, ⟨f, h2⟩, h3, h4, h5, h6⟩ := h
  exact ⟨h1.narrow hAB, ⟨f, h2.narrow hAB⟩, h3.narrow hAB, fun w hw => (h4 w hw).narrow hAB, fun w hw => ⟨(h5 w hw).1.narrow hAB, (h5 w hw).2.1.narrow hAB, (h5 w hw).2.2.narrow hAB⟩, fun a q v e1 e2 => (h6 a q v e1 e2).narrow hAB⟩
/-- what fits into what -/
def amCY (s : State) : Prop := va_Nw (.castable "java/util/ArrayList" "java/util/List") s ∧ va_Nw (.castable "java/lang/Integer" "java/lang/Object") s ∧ va_Nw (.castable "java/util/ArrayList" "java/lang/Object") s ∧ va_Nw (.castable "[I" "java/lang/Object") s
theorem amKA_in {k t : Nat} {c : List Value} (h : amKA k = some (t, c)) : (k = 200 ∧ t = 36 ∧ c = []) ∨ (k = 201 ∧ t = 37 ∧ c = (List.range 256).map (fun j => .ref (amK + 300 + j))) ∨ (∃ l, (k, l) ∈ amKby ∧ t = 34 ∧ c = l.map Value.int) := by
  unfold amKA at h
  split at h
  · next e => cases h; exact Or.inl ⟨e, rfl, rfl⟩
  · split at h
    · next e => cases h; exact Or.inr (Or.inl ⟨e, rfl, rfl⟩)
    · obtain ⟨q, h1, h2⟩ := Option.map_eq_some_iff.mp h
      have h3 := List.find?_some h1
      have h4 : q.1 = k := by simpa using h3
      cases h2
      refine Or.inr (Or.inr ⟨q.2, ?_, rfl, rfl⟩)
      rw [← h4]
      exact List.mem_of_find?_eq_some h1
theorem amKF_in {k ci f : Nat} {v : Value} (h : amKF k ci f = some v) : (∃ j, j < 256 ∧ k = 300 + j ∧ ci = 12 ∧ f = 0 ∧ v = .int (vb_c j)) ∨ (∃ w ∈ amKw, k = w.1 ∧ ci = 15 ∧ ((f = 0 ∧ v = .ref (amK + (100 + k))) ∨ (f = 1 ∧ v = .int 0))) := by
  unfold amKF at h
  split at h
  · next e =>
    split at h
    · next e2 => cases h; exact Or.inl ⟨k - 300, by omega, by omega, e2.1, e2.2, rfl⟩
    · cases h
  · split at h
    · next e =>
      obtain ⟨e1, e2⟩ := e
      obtain ⟨w, hw⟩ := Option.isSome_iff_exists.mp e2
      have h3 := List.find?_some hw
      have h4 : w.1 = k := by simpa using h3
      refine Or.inr ⟨w, List.mem_of_find?_eq_some hw, h4.symm, e1, ?_⟩
      split at h
      · next e3 => cases h; exact Or.inl ⟨e3, rfl⟩
      · split at h
        · next e3 => cases h; exact Or.inr ⟨e3, rfl⟩
        · cases h
    · cases h
theorem amKc_in {k t : Nat} (h : amKc k = some t) : (∃ j, j < 256 ∧ k = 300 + j ∧ t = 12) ∨ (∃ w ∈ amKw, k = w.1 ∧ t = 15) := by
  unfold amKc at h
  split at h
  · next e => cases h; exact Or.inl ⟨k - 300, by omega, by omega, rfl⟩
  · split at h
    · next e2 =>
      cases h
      obtain ⟨w, hw⟩ := Option.isSome_iff_exists.mp e2
      have h3 := List.find?_some hw
      have h4 : w.1 = k := by simpa using h3
      exact Or.inr ⟨w, List.mem_of_find?_eq_some hw, h4.symm, rfl⟩
    · cases h
theorem amCls_in {hp : amH} {x t : Nat} (h : amCls hp x = some t) : (∃ c, hp[x]? = some (t, c)) ∨ (∃ k, x = amK + k ∧ amKc k = some t) := by
  unfold amCls at h
  split at h
  · next c e => cases h; exact Or.inl ⟨c.2, e⟩
  · split at h
    · next e => exact Or.inr ⟨x - amK, by omega, h⟩
    · cases h
theorem amKLd_s {t : Nat} {st r : List Value} (h : amKLd t st = some r) : ∃ i k q c, st = .int i :: .ref (amK + k) :: q ∧ amKA k = some (t, c) ∧ vp_in i c.length ∧ r = c.getD i.toNatClampNeg .null :: q := by
  unfold amKLd at h
  split at h
  · next i a q =>
    split at h
    · next e =>
      split at h
      · next c hc =>
        split at h
        · next e2 =>
          obtain ⟨t', c⟩ := c
          obtain ⟨e3, e4⟩ := e2
          dsimp only at e3
          subst e3
          cases h
          exact ⟨i, a - amK, q, c, by rw [Nat.add_sub_cancel' e], hc, amIn_s e4, rfl⟩
        · cases h
      · cases h
    · cases h
  · cases h
theorem amKLen_s {st r : List Value} (h : amKLen st = some r) : ∃ k q t c, st = .ref (amK + k) :: q ∧ amKA k = some (t, c) ∧ r = .int (Int32.ofNat c.length) :: q := by
  unfold amKLen at h
  split at h
  · next a q =>
    split at h
    · next e =>
      obtain ⟨c, hc, h2⟩ := Option.map_eq_some_iff.mp h
      cases h2
      exact ⟨a - amK, q, c.1, c.2, by rw [Nat.add_sub_cancel' e], hc, rfl⟩
    · cases h
  · cases h
theorem amKGet_s {ci f : Nat} {st r : List Value} (h : amKGet ci f st = some r) : ∃ k q v, st = .ref (amK + k) :: q ∧ amKF k ci f = some v ∧ r = v :: q := by
  unfold amKGet at h
  split at h
  · next a q =>
    split at h
    · next e =>
      obtain ⟨v, hv, h2⟩ := Option.map_eq_some_iff.mp h
      cases h2
      exact ⟨a - amK, q, v, by rw [Nat.add_sub_cancel' e], hv, rfl⟩
    · cases h
  · cases h
