/-! ===== runs over invariants: bounds made narrower by what was compared ===== -/
def bIvN (E : bE) : bV → Option (Nat × Nat)
  | .inl k => some (Nat.add k bB, Nat.add k bB)
  | .inr (.inl q) => (match lAt E q.1 with
    | some r => some (Nat.add r.1 q.2, Nat.add r.2 q.2)
    | none => none)
  | _ => none
theorem bIvN_s {ρ : List Nat} {E : bE} (hE : bRE ρ E) {v : bV} {q : Nat × Nat} (h : bIvN E v = some q) {m : Nat} (hm : bNum ρ v = some m) : q.1 ≤ m ∧ m ≤ q.2 := by
  match v, h, hm with
  | .inl k, h, hm =>
    have h := Option.some.inj h
    have hm := Option.some.inj hm
    subst h
    subst hm
    exact ⟨Nat.le_refl _, Nat.le_refl _⟩
  | .inr (.inl p), h, hm =>
    simp only [bIvN] at h
    simp only [bNum] at hm
    split at h
    · next s e =>
      have h := Option.some.inj h
      subst h
      rw [lAt_eq] at e
      obtain ⟨r, g1, g2, g3⟩ := hE.2 p.1 s.1 s.2 e
      rw [g1] at hm
      have hm := Option.some.inj hm
      subst hm
      exact ⟨Nat.add_le_add_right g2 _, Nat.add_le_add_right g3 _⟩
    · cases h
theorem bIvN_some {ρ : List Nat} {E : bE} (hE : bRE ρ E) {v : bV} {m : Nat} (hm : bNum ρ v = some m) : ∃ q, bIvN E v = some q := by
  match v, hm with
  | .inl k, hm => exact ⟨_, rfl⟩
  | .inr (.inl p), hm =>
    simp only [bNum] at hm
    simp only [bIvN, lAt_eq]
    split at hm
    · next r e =>
      have h1 : p.1 < E.length := by rw [← hE.1]; exact a_lt e
      rw [List.getElem?_eq_getElem h1]
      exact ⟨_, rfl⟩
    · cases hm
theorem lPut_ex {α : Type} : ∀ {l : List α} {i : Nat} {o : α} (v : α), l[i]? = some o → ∃ l', lPut l i v = some l'
  | u :: r, 0, _, v, _ => ⟨v :: r, rfl⟩
  | u :: r, i + 1, o, v, h => by
    obtain ⟨l', e⟩ := lPut_ex (l := r) (i := i) v (by simpa using h)
    exact ⟨u :: l', by unfold lPut; rw [e]⟩
theorem lPut_len {α : Type} : ∀ {l l' : List α} {i : Nat} {v : α}, lPut l i v = some l' → l'.length = l.length
  | u :: r, l', 0, v, h => by cases h; rfl
  | u :: r, l', i + 1, v, h => by
    unfold lPut at h
    split at h
    · next r' e => cases h; rw [List.length_cons, List.length_cons, lPut_len e]
    · cases h
theorem bRE_put {ρ : List Nat} {E E' : bE} (hE : bRE ρ E) {i : Nat} {q : Nat × Nat} {r : Nat} (h : lPut E i q = some E') (hr : ρ[i]? = some r) (h1 : q.1 ≤ r) (h2 : r ≤ q.2) : bRE ρ E' := by
  obtain ⟨-, g1, g2⟩ := lPut_s h
  refine ⟨by rw [lPut_len h]; exact hE.1, fun j a b e => ?_⟩
  by_cases hj : j = i
  · subst hj
    rw [← lAt_eq, g1] at e
    cases e
    exact ⟨r, hr, h1, h2⟩
  · rw [← lAt_eq, g2 j hj, lAt_eq] at e
    exact hE.2 j a b e
/-- what is at most m -/
def bCap (E : bE) (v : bV) (m : Nat) : Option bE := match v with
  | .inl k => (match Nat.ble (Nat.add k bB) m with
    | true => some E
    | false => none)
  | .inr (.inl q) => (match lAt E q.1 with
    | some r => (match Nat.ble (Nat.add r.1 q.2) m with
      | true => (match Nat.ble (Nat.add r.2 q.2) m with
        | true => some E
        | false => lPut E q.1 (r.1, Nat.sub m q.2))
      | false => none)
    | none => none)
  | _ => none
/-- what is at least m -/
def bFlr (E : bE) (v : bV) (m : Nat) : Option bE := match v with
  | .inl k => (match Nat.ble m (Nat.add k bB) with
    | true => some E
    | false => none)
  | .inr (.inl q) => (match lAt E q.1 with
    | some r => (match Nat.ble m (Nat.add r.2 q.2) with
      | true => (match Nat.ble m (Nat.add r.1 q.2) with
        | true => some E
        | false => lPut E q.1 (Nat.sub m q.2, r.2))
      | false => none)
    | none => none)
  | _ => none
theorem bCap_s {ρ : List Nat} {E : bE} (hE : bRE ρ E) {v : bV} {a m : Nat} (hv : bNum ρ v = some a) (h : a ≤ m) : ∃ E', bCap E v m = some E' ∧ bRE ρ E' := by
  match v, hv with
  | .inl k, hv =>
    have hv := Option.some.inj hv
    subst hv
    refine ⟨E, ?_, hE⟩
    simp only [bCap]
    rw [show Nat.ble (Nat.add k bB) m = true from Nat.ble_eq.mpr h]
  | .inr (.inl q), hv =>
    simp only [bNum] at hv
    split at hv
    · next r e =>
      have hv := Option.some.inj hv
      subst hv
      have h1 : q.1 < E.length := by rw [← hE.1]; exact a_lt e
      obtain ⟨r', g1, g2, g3⟩ := hE.2 q.1 E[q.1].1 E[q.1].2 (List.getElem?_eq_getElem h1)
      rw [e] at g1
      cases g1
      simp only [bCap, lAt_eq, List.getElem?_eq_getElem h1]
      rw [show Nat.ble (Nat.add E[q.1].1 q.2) m = true from Nat.ble_eq.mpr (by show E[q.1].1 + q.2 ≤ m; omega)]
      dsimp only
      split
      · exact ⟨E, rfl, hE⟩
      · obtain ⟨E', e'⟩ := lPut_ex (E[q.1].1, Nat.sub m q.2) (List.getElem?_eq_getElem h1)
        exact ⟨E', e', bRE_put hE e' e g2 (by show r ≤ m - q.2; omega)⟩
    · cases hv
theorem bFlr_s {ρ : List Nat} {E : bE} (hE : bRE ρ E) {v : bV} {a m : Nat} (hv : bNum ρ v = some a) (h : m ≤ a) : ∃ E', bFlr E v m = some E' ∧ bRE ρ E' := by
  match v, hv with
  | .inl k, hv =>
    have hv := Option.some.inj hv
    subst hv
    refine ⟨E, ?_, hE⟩
    simp only [bFlr]
    rw [show Nat.ble m (Nat.add k bB) = true from Nat.ble_eq.mpr h]
  | .inr (.inl q), hv =>
    simp only [bNum] at hv
    split at hv
    · next r e =>
      have hv := Option.some.inj hv
      subst hv
      have h1 : q.1 < E.length := by rw [← hE.1]; exact a_lt e
      obtain ⟨r', g1, g2, g3⟩ := hE.2 q.1 E[q.1].1 E[q.1].2 (List.getElem?_eq_getElem h1)
      rw [e] at g1
      cases g1
      simp only [bFlr, lAt_eq, List.getElem?_eq_getElem h1]
      rw [show Nat.ble m (Nat.add E[q.1].2 q.2) = true from Nat.ble_eq.mpr (by show m ≤ E[q.1].2 + q.2; omega)]
      dsimp only
      split
      · exact ⟨E, rfl, hE⟩
      · obtain ⟨E', e'⟩ := lPut_ex (Nat.sub m q.2, E[q.1].2) (List.getElem?_eq_getElem h1)
        exact ⟨E', e', bRE_put hE e' e (by show m - q.2 ≤ r; omega) g3⟩
    · cases hv
/-- the first is at most the second -/
def bLq (E : bE) (u v : bV) : Option bE := match bIvN E v with
  | some q => (match bCap E u q.2 with
    | some E1 => (match bIvN E1 u with
      | some p => bFlr E1 v p.1
      | none => none)
    | none => none)
  | none => none
theorem bLq_s {ρ : List Nat} {E : bE} (hE : bRE ρ E) {u v : bV} {a b : Nat} (hu : bNum ρ u = some a) (hv : bNum ρ v = some b) (h : a ≤ b) : ∃ E', bLq E u v = some E' ∧ bRE ρ E' := by
  obtain ⟨q, e1⟩ := bIvN_some hE hv
  have h1 := bIvN_s hE e1 hv
  obtain ⟨E1, e2, hE1⟩ := bCap_s hE hu (Nat.le_trans h h1.2)
  obtain ⟨p, e3⟩ := bIvN_some hE1 hu
  have h2 := bIvN_s hE1 e3 hu
  obtain ⟨E2, e4, hE2⟩ := bFlr_s hE1 hv (Nat.le_trans h2.1 h)
  exact ⟨E2, by unfold bLq; rw [e1]; dsimp only; rw [e2]; dsimp only; rw [e3]; exact e4, hE2⟩
def bLqs (E : bE) : bRt → Option bE
  | [] => some E
  | r :: R => (match bLq E r.1 r.2 with
    | some E1 => bLqs E1 R
    | none => none)
theorem bLqs_s {ρ : List Nat} : ∀ {R : bRt} {E : bE}, bRE ρ E → (∀ r ∈ R, ∃ a b, bNum ρ r.1 = some a ∧ bNum ρ r.2 = some b ∧ a ≤ b) → ∃ E', bLqs E R = some E' ∧ bRE ρ E'
  | [], E, hE, _ => ⟨E, rfl, hE⟩
  | r :: R, E, hE, hR => by
    obtain ⟨a, b, h1, h2, h3⟩ := hR r List.mem_cons_self
    obtain ⟨E1, e1, hE1⟩ := bLq_s hE h1 h2 h3
    obtain ⟨E2, e2, hE2⟩ := bLqs_s (R := R) hE1 (fun r hr => hR r (List.mem_cons_of_mem _ hr))
    exact ⟨E2, by unfold bLqs; rw [e1]; exact e2, hE2⟩
def bSym : bV → Bool
  | .inr (.inl _) => true
  | _ => false
/-- is the second known to be below the first -/
def bGtK (u v : bV) : Bool := match u with
  | .inr (.inl p) => (match v with
    | .inr (.inl q) => (match Nat.beq p.1 q.1 with
      | true => Nat.ble (Nat.add q.2 1) p.2
      | false => false)
    | _ => false)
  | _ => false
theorem bGtK_s {ρ : List Nat} {u v : bV} {a b : Nat} (h : bGtK u v = true) (hu : bNum ρ u = some a) (hv : bNum ρ v = some b) : b < a := by
  unfold bGtK at h
  split at h
  · next p =>
    split at h
    · next q =>
      split at h
      · next e =>
        have e := Nat.eq_of_beq_eq_true e
        have h := a_lt1 h
        simp only [bNum] at hu hv
        rw [e] at hu
        split at hv
        · next r e2 =>
          rw [e2] at hu
          have hu := Option.some.inj hu
          have hv := Option.some.inj hv
          omega
        · cases hv
      · cases h
    · cases h
  · cases h
def bLqS (S : bS) (u v : bV) : Option bS := match bGtK u v with
  | true => none
  | false => (match bLq S.1 u v with
    | some E1 => (match bSym u with
      | true => (match bSym v with
        | true => (match bLqs E1 S.2.2.1 with
          | some E2 => some (E2, S.2.1, (u, v) :: S.2.2.1, S.2.2.2)
          | none => none)
        | false => (match bLqs E1 S.2.2.1 with
          | some E2 => some (E2, S.2)
          | none => none))
      | false => (match bLqs E1 S.2.2.1 with
        | some E2 => some (E2, S.2)
        | none => none))
    | none => none)
theorem bLqS_s {n : Nat} {ρ : List Nat} {S : bS} {hp : amH} (hS : bRS n ρ S hp) {u v : bV} {a b : Nat} (hu : bNum ρ u = some a) (hv : bNum ρ v = some b) (h : a ≤ b) : ∃ S', bLqS S u v = some S' ∧ bRS n ρ S' hp := by
  obtain ⟨E1, e1, hE1⟩ := bLq_s hS.1 hu hv h
  obtain ⟨E2, e2, hE2⟩ := bLqs_s hE1 hS.2.2.1
  unfold bLqS
  have hk : bGtK u v = false := by
    cases e : bGtK u v with
    | false => rfl
    | true => have := bGtK_s e hu hv; omega
  rw [hk, e1]
  dsimp only
  rw [e2]
  dsimp only
  have h0 : bRS n ρ (E2, S.2) hp := ⟨hE2, hS.2⟩
  split
  · split
    · refine ⟨_, rfl, hE2, hS.2.1, fun r hr => ?_, hS.2.2.2⟩
      cases hr with
      | head => exact ⟨a, b, hu, hv, h⟩
      | tail _ hr => exact hS.2.2.1 r hr
    · exact ⟨_, rfl, h0⟩
  · exact ⟨_, rfl, h0⟩
def bSh : bV → bV
  | .inl k => .inl (Nat.add k 1)
  | .inr (.inl q) => .inr (.inl (q.1, Nat.add q.2 1))
  | v => v
theorem bSh_s {ρ : List Nat} {v : bV} {a : Nat} (h : bNum ρ v = some a) : bNum ρ (bSh v) = some (a + 1) := by
  match v, h with
  | .inl k, h =>
    have h := Option.some.inj h
    subst h
    show some (k + 1 + bB) = some (k + bB + 1)
    rw [Nat.add_right_comm]
  | .inr (.inl q), h =>
    simp only [bNum, bSh] at h ⊢
    split at h
    · next r e =>
      have h := Option.some.inj h
      subst h
      rfl
    · cases h
def bVq : bV → bV → Bool
  | .inl k, .inl m => Nat.beq k m
  | .inr (.inl p), .inr (.inl q) => (match Nat.beq p.1 q.1 with
    | true => Nat.beq p.2 q.2
    | false => false)
  | _, _ => false
theorem bVq_s {u v : bV} (h : bVq u v = true) : u = v := by
  unfold bVq at h
  split at h
  · rw [Nat.eq_of_beq_eq_true h]
  · next p q =>
    split at h
    · next e =>
      have e1 := Nat.eq_of_beq_eq_true e
      have e2 := Nat.eq_of_beq_eq_true h
      rw [show p = q from Prod.ext e1 e2]
    · cases h
  · cases h
def bNe (S : bS) (u v : bV) : Option bS := match bVq u v with
  | true => none
  | false => (match bIvN S.1 u with
    | none => none
    | some p => (match bIvN S.1 v with
      | none => none
      | some q => (match Nat.beq q.1 q.2 with
        | true => (match Nat.beq p.1 q.1 with
          | true => (match bFlr S.1 u (Nat.add q.1 1) with
            | some E1 => some (E1, S.2)
            | none => none)
          | false => (match Nat.beq p.2 q.1 with
            | true => (match bCap S.1 u (Nat.sub q.1 1) with
              | some E1 => some (E1, S.2)
              | none => none)
            | false => some S))
        | false => some S)))
theorem bNe_s {n : Nat} {ρ : List Nat} {S : bS} {hp : amH} (hS : bRS n ρ S hp) {u v : bV} {a b : Nat} (hu : bNum ρ u = some a) (hv : bNum ρ v = some b) (h : ¬ a = b) : ∃ S', bNe S u v = some S' ∧ bRS n ρ S' hp := by
  obtain ⟨p, e1⟩ := bIvN_some hS.1 hu
  obtain ⟨q, e2⟩ := bIvN_some hS.1 hv
  have h1 := bIvN_s hS.1 e1 hu
  have h2 := bIvN_s hS.1 e2 hv
  unfold bNe
  have hk : bVq u v = false := by
    cases e : bVq u v with
    | false => rfl
    | true => rw [bVq_s e, hv] at hu; cases hu; exact absurd rfl h
  rw [hk, e1]
  dsimp only
  rw [e2]
  dsimp only
  split
  · next e3 =>
    have e3 := Nat.eq_of_beq_eq_true e3
    split
    · next e4 =>
      have e4 := Nat.eq_of_beq_eq_true e4
      obtain ⟨E1, g1, g2⟩ := bFlr_s hS.1 hu (m := Nat.add q.1 1) (by show q.1 + 1 ≤ a; omega)
      rw [g1]
      exact ⟨_, rfl, g2, hS.2⟩
    · split
      · next e4 =>
        have e4 := Nat.eq_of_beq_eq_true e4
        obtain ⟨E1, g1, g2⟩ := bCap_s hS.1 hu (m := Nat.sub q.1 1) (by show a ≤ q.1 - 1; omega)
        rw [g1]
        exact ⟨_, rfl, g2, hS.2⟩
      · exact ⟨_, rfl, hS⟩
  · exact ⟨_, rfl, hS⟩
def bCond (c : Jvm.ClassFile.Cond) (S : bS) (x y : bV) : Option bS := match c with
  | .eq => (match bLqS S x y with
    | some S1 => bLqS S1 y x
    | none => none)
  | .ne => (match bNe S x y with
    | some S1 => bNe S1 y x
    | none => none)
  | .lt => bLqS S (bSh x) y
  | .ge => bLqS S y x
  | .gt => bLqS S (bSh y) x
  | .le => bLqS S x y
def bNeg : Jvm.ClassFile.Cond → Jvm.ClassFile.Cond
  | .eq => .ne
  | .ne => .eq
  | .lt => .ge
  | .ge => .lt
  | .gt => .le
  | .le => .gt
theorem bNeg_s (c : Jvm.ClassFile.Cond) (x y : Int32) : amCmpP (bNeg c) x y = !amCmpP c x y := by
  cases c <;> simp only [amCmpP, bNeg]
  · by_cases h : x = y <;> simp [h]
  · by_cases h : x = y <;> simp [h]
  · by_cases h : x < y
    · have : ¬ y ≤ x := fun z => by have := Int32.lt_iff_toInt_lt.mp h; have := Int32.le_iff_toInt_le.mp z; omega
      simp [h, this]
    · have : y ≤ x := Int32.le_iff_toInt_le.mpr (by have : ¬ x.toInt < y.toInt := fun z => h (Int32.lt_iff_toInt_lt.mpr z); omega)
      simp [h, this]
  · by_cases h : x < y
    · have : ¬ y ≤ x := fun z => by have := Int32.lt_iff_toInt_lt.mp h; have := Int32.le_iff_toInt_le.mp z; omega
      simp [h, this]
    · have : y ≤ x := Int32.le_iff_toInt_le.mpr (by have : ¬ x.toInt < y.toInt := fun z => h (Int32.lt_iff_toInt_lt.mpr z); omega)
      simp [h, this]
  · by_cases h : y < x
    · have : ¬ x ≤ y := fun z => by have := Int32.lt_iff_toInt_lt.mp h; have := Int32.le_iff_toInt_le.mp z; omega
      simp [h, this]
    · have : x ≤ y := Int32.le_iff_toInt_le.mpr (by have : ¬ y.toInt < x.toInt := fun z => h (Int32.lt_iff_toInt_lt.mpr z); omega)
      simp [h, this]
  · by_cases h : y < x
    · have : ¬ x ≤ y := fun z => by have := Int32.lt_iff_toInt_lt.mp h; have := Int32.le_iff_toInt_le.mp z; omega
      simp [h, this]
    · have : x ≤ y := Int32.le_iff_toInt_le.mpr (by have : ¬ y.toInt < x.toInt := fun z => h (Int32.lt_iff_toInt_lt.mpr z); omega)
      simp [h, this]
theorem bOff_lt {x y : Int32} : x < y ↔ aOff x < aOff y := by
  have := aOff_eq x
  have := aOff_eq y
  rw [Int32.lt_iff_toInt_lt]
  omega
theorem bOff_le2 {x y : Int32} : x ≤ y ↔ aOff x ≤ aOff y := by
  have := aOff_eq x
  have := aOff_eq y
  rw [Int32.le_iff_toInt_le]
  omega
theorem bCond_s {n : Nat} {ρ : List Nat} {S : bS} {hp : amH} (hS : bRS n ρ S hp) {c : Jvm.ClassFile.Cond} {u v : bV} {x y : Int32} (hu : bR n ρ u (.int x)) (hv : bR n ρ v (.int y)) (h : amCmpP c x y = true) : ∃ S', bCond c S u v = some S' ∧ bRS n ρ S' hp := by
  have h1 := bNum_s hu
  have h2 := bNum_s hv
  cases c <;> simp only [amCmpP, decide_eq_true_eq] at h <;> unfold bCond <;> dsimp only
  · subst h
    obtain ⟨S1, e1, g1⟩ := bLqS_s hS h1 h2 (Nat.le_refl _)
    rw [e1]
    exact bLqS_s g1 h2 h1 (Nat.le_refl _)
  · have h3 : ¬ aOff x + bB = aOff y + bB := fun z => h (bOff_inj (by omega))
    obtain ⟨S1, e1, g1⟩ := bNe_s hS h1 h2 h3
    rw [e1]
    exact bNe_s g1 h2 h1 (fun z => h3 z.symm)
  · exact bLqS_s hS (bSh_s h1) h2 (by have := bOff_lt.mp h; omega)
  · exact bLqS_s hS h2 h1 (by have := bOff_le2.mp h; omega)
  · exact bLqS_s hS (bSh_s h2) h1 (by have := bOff_lt.mp h; omega)
  · exact bLqS_s hS h1 h2 (by have := bOff_le2.mp h; omega)
