/-! ===== runs over invariants: values known by their bounds, by what they were (a number) and what was added ===== -/
abbrev bV : Type := Nat ⊕ ((Nat × Nat) ⊕ (Nat ⊕ List Nat))
abbrev bY : Type := (Nat × Nat) ⊕ (Nat ⊕ List Nat)
abbrev bE : Type := List (Nat × Nat)
abbrev bF : Type := List (Nat × Nat × bV)
abbrev bRt : Type := List (bV × bV)
abbrev bMm : Type := List (bV × bV × bV)
abbrev bS : Type := bE × bF × bRt × bMm
abbrev bL : Type := List (Option bV)
abbrev bD : Type := Nat × Nat × List bY
def bB : Nat := 1000000
/-- 1 a long, 2 a double, 3 a float that is no NaN, 4 null, 5 one that isn't 0 either, 6 a double that is no NaN, 7 one that isn't 0 either; from amK on a constant's name -/
def bT (t : Nat) (w : Value) : Prop := (t = 1 ∧ ∃ x, w = .long x) ∨ ((t = 2 ∨ t = 6 ∨ t = 7) ∧ ∃ x, w = .double x ∧ (t ≠ 2 → FP.Core.decode FP.Core.b64 x.toNat ≠ .nan) ∧ (t = 7 → flNz (FP.Core.decode FP.Core.b64 x.toNat) = true)) ∨
  ((t = 3 ∨ t = 5) ∧ ∃ x, w = .float x ∧ FP.Core.decode FP.Core.b32 x.toNat ≠ .nan ∧ (t = 5 → flNz (FP.Core.decode FP.Core.b32 x.toNat) = true)) ∨ (t = 4 ∧ w = .null) ∨ (amK ≤ t ∧ w = .ref t)
def bR (n : Nat) (ρ : List Nat) : bV → Value → Prop
  | .inl k, w => ∃ x, w = .int x ∧ aOff x = k
  | .inr (.inl q), w => ∃ x r, w = .int x ∧ ρ[q.1]? = some r ∧ aOff x + bB = r + q.2
  | .inr (.inr (.inl t)), w => bT t w
  | .inr (.inr (.inr l)), w => ∃ i, w = .ref i ∧ i < n ∧ i ∈ l
def bYr (n : Nat) : bY → Value → Prop
  | .inl q, w => ∃ x, w = .int x ∧ q.1 ≤ aOff x ∧ aOff x ≤ q.2
  | .inr (.inl t), w => bT t w
  | .inr (.inr l), w => ∃ i, w = .ref i ∧ i < n ∧ i ∈ l
theorem bR_mono {n : Nat} {ρ ρ' : List Nat} (h : ρ <+: ρ') {v : bV} {w : Value} (hv : bR n ρ v w) : bR n ρ' v w := by
  obtain ⟨z, rfl⟩ := h
  match v, hv with
  | .inl k, hv => exact hv
  | .inr (.inl q), ⟨x, r, h1, h2, h3⟩ => exact ⟨x, r, h1, by rw [List.getElem?_append_left (a_lt h2)]; exact h2, h3⟩
  | .inr (.inr (.inl t)), hv => exact hv
  | .inr (.inr (.inr l)), hv => exact hv
theorem bT_ok {n t : Nat} {w : Value} (h : bT t w) : amOk n w = true := by
  rcases h with ⟨-, x, rfl⟩ | ⟨-, x, rfl, -⟩ | ⟨-, x, rfl, -⟩ | ⟨-, rfl⟩ | ⟨h1, rfl⟩
  · rfl
  · rfl
  · rfl
  · rfl
  · simp [amOk, h1]
theorem bR_ok {n : Nat} {ρ : List Nat} {v : bV} {w : Value} (hv : bR n ρ v w) : amOk n w = true := by
  match v, hv with
  | .inl k, hv => obtain ⟨x, rfl, -⟩ := hv; rfl
  | .inr (.inl q), hv => obtain ⟨x, r, rfl, -⟩ := hv; rfl
  | .inr (.inr (.inl t)), hv => exact bT_ok hv
  | .inr (.inr (.inr l)), hv => obtain ⟨i, rfl, h1, -⟩ := hv; simp [amOk, h1]
/-- the same kind of value: what is an int, is one int -/
def bIsI : bV → Bool
  | .inl _ => true
  | .inr (.inl _) => true
  | _ => false
theorem bIsI_s {n : Nat} {ρ : List Nat} {v : bV} {w : Value} (h : bIsI v = true) (hv : bR n ρ v w) : ∃ x, w = .int x := by
  match v, h, hv with
  | .inl k, _, ⟨x, h1, _⟩ => exact ⟨x, h1⟩
  | .inr (.inl q), _, ⟨x, r, h1, _⟩ => exact ⟨x, h1⟩
theorem bOff_inj {x y : Int32} (h : aOff x = aOff y) : x = y := by
  have h1 := aOff_eq x
  have h2 := aOff_eq y
  exact Int32.toInt_inj.mp (by omega)
theorem bR_uniq {n : Nat} {ρ : List Nat} {v : bV} {x y : Int32} (h1 : bR n ρ v (.int x)) (h2 : bR n ρ v (.int y)) : x = y := by
  match v, h1, h2 with
  | .inl k, ⟨a, ea, e1⟩, ⟨b, eb, e2⟩ =>
    cases ea; cases eb
    exact bOff_inj (by rw [e1, e2])
  | .inr (.inl q), ⟨a, r, ea, e1, e2⟩, ⟨b, s, eb, e3, e4⟩ =>
    cases ea; cases eb
    rw [e1] at e3
    cases e3
    exact bOff_inj (by omega)
  | .inr (.inr (.inl t)), h1, _ =>
    rcases h1 with ⟨-, x, h⟩ | ⟨-, x, h, -⟩ | ⟨-, x, h, -⟩ | ⟨-, h⟩ | ⟨-, h⟩ <;> cases h
  | .inr (.inr (.inr l)), ⟨_, h, _⟩, _ => cases h
/-! the numbers' bounds -/
def bRE (ρ : List Nat) (E : bE) : Prop := ρ.length = E.length ∧ ∀ (i a b : Nat), E[i]? = some (a, b) → ∃ r, ρ[i]? = some r ∧ a ≤ r ∧ r ≤ b
def bIv (E : bE) : bV → Option (Nat × Nat)
  | .inl k => some (k, k)
  | .inr (.inl q) => (match lAt E q.1 with
    | some r => some (Nat.sub (Nat.add r.1 q.2) bB, Nat.sub (Nat.add r.2 q.2) bB)
    | none => none)
  | _ => none
theorem bIn_off {a b : Nat} {x : Int32} : aIn a b x ↔ a ≤ aOff x ∧ aOff x ≤ b := by
  have := aOff_eq x
  unfold aIn
  omega
theorem bOff_le (x : Int32) : aOff x ≤ 4294967295 := by
  have := aOff_eq x
  have := aMax x
  omega
theorem bIv_s {n : Nat} {ρ : List Nat} {E : bE} (hE : bRE ρ E) {v : bV} {q : Nat × Nat} (h : bIv E v = some q) {w : Value} (hv : bR n ρ v w) : ∃ x, w = .int x ∧ aIn q.1 q.2 x := by
  match v, h, hv with
  | .inl k, h, ⟨x, h1, h2⟩ =>
    cases h
    exact ⟨x, h1, bIn_off.mpr (by simp only [h2]; exact ⟨Nat.le_refl _, Nat.le_refl _⟩)⟩
  | .inr (.inl p), h, ⟨x, r, h1, h2, h3⟩ =>
    simp only [bIv] at h
    split at h
    · next s e =>
      have h := Option.some.inj h
      subst h
      rw [lAt_eq] at e
      obtain ⟨r', g1, g2, g3⟩ := hE.2 p.1 s.1 s.2 e
      rw [h2] at g1
      cases g1
      refine ⟨x, h1, bIn_off.mpr ⟨?_, ?_⟩⟩
      · show s.1 + p.2 - bB ≤ _
        omega
      · show _ ≤ s.2 + p.2 - bB
        omega
    · cases h
/-- a new number -/
def bNew (E : bE) (q : Nat × Nat) : bV × bE := match Nat.beq q.1 q.2 with
  | true => (.inl q.1, E)
  | false => (.inr (.inl (E.length, bB)), E ++ [q])
theorem bNew_s {n : Nat} {ρ : List Nat} {E : bE} (hE : bRE ρ E) {q : Nat × Nat} {x : Int32} (hx : aIn q.1 q.2 x) : ∃ ρ', ρ <+: ρ' ∧ bRE ρ' (bNew E q).2 ∧ bR n ρ' (bNew E q).1 (.int x) := by
  have hx := bIn_off.mp hx
  unfold bNew
  split
  · next e =>
    have e := Nat.eq_of_beq_eq_true e
    exact ⟨ρ, List.prefix_refl _, hE, x, rfl, by omega⟩
  · refine ⟨ρ ++ [aOff x], List.prefix_append _ _, ⟨by simp [hE.1], ?_⟩, ⟨x, aOff x, rfl, ?_, rfl⟩⟩
    · intro i a b h
      by_cases hi : i < E.length
      · rw [List.getElem?_append_left hi] at h
        rw [List.getElem?_append_left (by rw [hE.1]; exact hi)]
        exact hE.2 i a b h
      · rw [List.getElem?_append_right (by omega)] at h
        have : i = E.length := by
          have := a_lt h
          simp at this
          omega
        subst this
        rw [Nat.sub_self] at h
        cases h
        exact ⟨aOff x, by rw [← hE.1, List.getElem?_append_right (Nat.le_refl _), Nat.sub_self]; rfl, hx.1, hx.2⟩
    · show (ρ ++ [aOff x])[E.length]? = _
      rw [← hE.1, List.getElem?_append_right (Nat.le_refl _), Nat.sub_self]; rfl
/-- a type's value, new -/
def bOfY (E : bE) : bY → bV × bE
  | .inl q => bNew E q
  | .inr (.inl t) => (.inr (.inr (.inl t)), E)
  | .inr (.inr l) => (.inr (.inr (.inr l)), E)
theorem bOfY_s {n : Nat} {ρ : List Nat} {E : bE} (hE : bRE ρ E) {y : bY} {w : Value} (hw : bYr n y w) : ∃ ρ', ρ <+: ρ' ∧ bRE ρ' (bOfY E y).2 ∧ bR n ρ' (bOfY E y).1 w := by
  match y, hw with
  | .inl q, ⟨x, h1, h2, h3⟩ =>
    subst h1
    exact bNew_s hE (bIn_off.mpr ⟨h2, h3⟩)
  | .inr (.inl t), hw => exact ⟨ρ, List.prefix_refl _, hE, hw⟩
  | .inr (.inr l), hw => exact ⟨ρ, List.prefix_refl _, hE, hw⟩
def lHas (l : List Nat) (i : Nat) : Bool := match l with
  | [] => false
  | j :: r => (match Nat.beq i j with
    | true => true
    | false => lHas r i)
theorem lHas_s : ∀ {l : List Nat} {i : Nat}, lHas l i = true → i ∈ l
  | j :: r, i, h => by
    unfold lHas at h
    split at h
    · next e => rw [Nat.eq_of_beq_eq_true e]; exact List.mem_cons_self
    · exact List.mem_cons_of_mem _ (lHas_s h)
def lSub (l m : List Nat) : Bool := lAll (lHas m) l
theorem lAll_m {α : Type} {p : α → Bool} : ∀ {l : List α}, lAll p l = true → ∀ v ∈ l, p v = true
  | [], _, _, h => by cases h
  | u :: r, h, v, hv => by
    unfold lAll at h
    split at h
    · next e =>
      cases hv with
      | head => exact e
      | tail _ hv => exact lAll_m h v hv
    · cases h
theorem lSub_s {l m : List Nat} (h : lSub l m = true) {i : Nat} (hi : i ∈ l) : i ∈ m := lHas_s (lAll_m h i hi)
/-- a value is of a type -/
def bLe (E : bE) (v : bV) (y : bY) : Bool := match y with
  | .inl q => (match bIv E v with
    | some p => (match Nat.ble q.1 p.1 with
      | true => Nat.ble p.2 q.2
      | false => false)
    | none => false)
  | .inr (.inl t) => (match v with
    | .inr (.inr (.inl s)) => Nat.beq s t
    | _ => false)
  | .inr (.inr l) => (match v with
    | .inr (.inr (.inr m)) => lSub m l
    | _ => false)
theorem bLe_s {n : Nat} {ρ : List Nat} {E : bE} (hE : bRE ρ E) {v : bV} {y : bY} (h : bLe E v y = true) {w : Value} (hv : bR n ρ v w) : bYr n y w := by
  unfold bLe at h
  split at h
  · split at h
    · next p e =>
      split at h
      · next e1 =>
        obtain ⟨x, h1, h2⟩ := bIv_s hE e hv
        have h2 := bIn_off.mp h2
        exact ⟨x, h1, Nat.le_trans (a_le e1) h2.1, Nat.le_trans h2.2 (a_le h)⟩
      · cases h
    · cases h
  · split at h
    · rw [← Nat.eq_of_beq_eq_true h]; exact hv
    · cases h
  · split at h
    · obtain ⟨i, h1, h2, h3⟩ := hv
      exact ⟨i, h1, h2, lSub_s h h3⟩
    · cases h
/-- a type within a type -/
def bYle (x y : bY) : Bool := match y with
  | .inl q => (match x with
    | .inl p => (match Nat.ble q.1 p.1 with
      | true => Nat.ble p.2 q.2
      | false => false)
    | _ => false)
  | .inr (.inl t) => (match x with
    | .inr (.inl s) => Nat.beq s t
    | _ => false)
  | .inr (.inr l) => (match x with
    | .inr (.inr m) => lSub m l
    | _ => false)
theorem bYle_s {n : Nat} {x y : bY} (h : bYle x y = true) {w : Value} (hv : bYr n x w) : bYr n y w := by
  unfold bYle at h
  split at h
  · split at h
    · split at h
      · next e1 =>
        obtain ⟨x, h1, h2, h3⟩ := hv
        exact ⟨x, h1, Nat.le_trans (a_le e1) h2, Nat.le_trans h3 (a_le h)⟩
      · cases h
    · cases h
  · split at h
    · rw [← Nat.eq_of_beq_eq_true h]; exact hv
    · cases h
  · split at h
    · obtain ⟨i, h1, h2, h3⟩ := hv
      exact ⟨i, h1, h2, lSub_s h h3⟩
    · cases h
def bCat : bV → Nat
  | .inr (.inr (.inl t)) => (match lHas [1, 2, 6, 7] t with
    | true => 2
    | false => 1)
  | _ => 1
theorem bR_cat {n : Nat} {ρ : List Nat} {v : bV} {w : Value} (hv : bR n ρ v w) : w.category = bCat v := by
  match v, hv with
  | .inl k, ⟨x, h, _⟩ => subst h; rfl
  | .inr (.inl q), ⟨x, r, h, _⟩ => subst h; rfl
  | .inr (.inr (.inl t)), hv =>
    rcases hv with ⟨h, x, rfl⟩ | ⟨h, x, rfl, -⟩ | ⟨h, x, rfl, -⟩ | ⟨h, rfl⟩ | ⟨h, rfl⟩
    · subst h; rfl
    · rcases h with rfl | rfl | rfl <;> rfl
    · rcases h with rfl | rfl <;> rfl
    · subst h; rfl
    · have h1 : lHas [1, 2, 6, 7] t = false := by
        cases e : lHas [1, 2, 6, 7] t with
        | false => rfl
        | true =>
          have := lHas_s e
          simp at this
          unfold amK at h
          omega
      simp only [bCat, h1]; rfl
  | .inr (.inr (.inr l)), ⟨i, h, _⟩ => subst h; rfl
