/-! ===== the abstract machine (am_): a frame's locals, stack and a heap of numbered cells; what one instruction does ===== -/
abbrev amC : Type := Nat × List Value
abbrev amH : Type := List amC
abbrev amL : Type := List (Nat × Value)
/-- numbers from here on name constants, not cells -/
noncomputable def amK : Nat := 1000000
/-- the script's number -/
noncomputable def amS : Nat := 1999999
noncomputable def amV (ad : Nat → Nat) : Value → Value
  | .ref i => .ref (ad i)
  | v => v
noncomputable def amInt : Value → Int32
  | .int x => x
  | _ => 0
noncomputable def amLong : Value → Int64
  | .long x => x
  | _ => 0
noncomputable def amRef (ad : Nat → Nat) : Value → Option Nat
  | .ref i => some (ad i)
  | _ => none
noncomputable def amTys (dA : Nat → ClassId) : List (ClassId × FieldType) := [(dA 0, .int), (dA 1, .long), (dA 2, .byte), (dA 3, .object "TripleTrains$Snapshot")]
/-- a cell as the kit's worlds have it: rows by their kinds from 32 on, objects by their classes' places -/
noncomputable def amE (dA : Nat → ClassId) (ad : Nat → Nat) (c : amC) : va_E :=
  if c.1 = 32 then .inl (dA 0, c.2.length, .inl (fun j => amInt (c.2.getD j .null)))
  else if c.1 = 33 then .inl (dA 1, c.2.length, .inr (.inl (fun j => amLong (c.2.getD j .null))))
  else if c.1 = 34 then .inl (dA 2, c.2.length, .inl (fun j => amInt (c.2.getD j .null)))
  else if c.1 = 35 then .inl (dA 3, c.2.length, .inr (.inr (.inr (.inr (fun j => amRef ad (c.2.getD j .null))))))
  else .inr (c.1, c.2.map (amV ad))
noncomputable def amW (dA : Nat → ClassId) (ad : Nat → Nat) (hp : amH) : va_W := hp.mapIdx (fun i c => (ad i, amE dA ad c))
noncomputable def amLs (ad : Nat → Nat) (ls : amL) : List (Nat × Value) := ls.map (fun q => (q.1, amV ad q.2))
theorem amW_get {dA : Nat → ClassId} {ad : Nat → Nat} {hp : amH} {i : Nat} {c : amC} (h : hp[i]? = some c) : (amW dA ad hp)[i]? = some (ad i, amE dA ad c) := by
  simp [amW, h]
theorem amW_set {dA : Nat → ClassId} {ad : Nat → Nat} {hp : amH} {i : Nat} {c : amC} : (amW dA ad hp).set i (ad i, amE dA ad c) = amW dA ad (hp.set i c) := by
  apply List.ext_getElem?
  intro j
  simp only [amW, List.getElem?_set, List.getElem?_mapIdx, List.length_mapIdx]
  by_cases h : i = j
  · subst h
    by_cases h2 : i < hp.length
    · simp [h2]
    · simp [h2]
  · simp [h]
theorem amW_push {dA : Nat → ClassId} {ad : Nat → Nat} {hp : amH} {c : amC} : amW dA ad (hp ++ [c]) = amW dA ad hp ++ [(ad hp.length, amE dA ad c)] := by
  simp [amW, List.mapIdx_append]
theorem amV_cat (ad : Nat → Nat) (v : Value) : (amV ad v).category = v.category := by cases v <;> rfl
theorem amLs_mem {ad : Nat → Nat} {ls : amL} {i : Nat} {v : Value} (h : (i, v) ∈ ls) : (i, amV ad v) ∈ amLs ad ls := List.mem_map.mpr ⟨(i, v), h, rfl⟩
noncomputable def amGet : amL → Nat → Option Value
  | [], _ => none
  | q :: r, i => if q.1 = i then some q.2 else amGet r i
theorem amGet_mem {ls : amL} {i : Nat} {v : Value} (h : amGet ls i = some v) : (i, v) ∈ ls := by
  induction ls with
  | nil => cases h
  | cons q r ih =>
    unfold amGet at h
    split at h
    · next e => cases h; subst e; exact List.mem_cons_self
    · exact List.mem_cons_of_mem _ (ih h)
theorem amGet_has {ad : Nat → Nat} {ls : amL} {i nL : Nat} {v : Value} {lsA : Array Slot} (hl : lv_has lsA nL (amLs ad ls)) (h : amGet ls i = some v) : lsA[i]? = some (.val (amV ad v)) := hl.2.2 _ (amLs_mem (amGet_mem h))
noncomputable def amSet1 (ls : amL) (i : Nat) (v : Value) : amL := (i, v) :: ls.filter (fun q => !(q.1 == i) && !(q.1 + 1 == i && q.2.category == 2))
noncomputable def amSet2 (ls : amL) (i : Nat) (v : Value) : amL := (i, v) :: ls.filter (fun q => !(q.1 == i) && (!(q.1 == i + 1) && !(q.1 + 1 == i && q.2.category == 2)))
theorem amSet1_ls (ad : Nat → Nat) (ls : amL) (i : Nat) (v : Value) : (i, amV ad v) :: (amLs ad ls).filter (fun q => !(q.1 == i) && !(q.1 + 1 == i && q.2.category == 2)) = amLs ad (amSet1 ls i v) := by
  simp [amLs, amSet1, List.filter_map, Function.comp_def, amV_cat]
theorem amSet2_ls (ad : Nat → Nat) (ls : amL) (i : Nat) (v : Value) : (i, amV ad v) :: (amLs ad ls).filter (fun q => !(q.1 == i) && (!(q.1 == i + 1) && !(q.1 + 1 == i && q.2.category == 2))) = amLs ad (amSet2 ls i v) := by
  simp [amLs, amSet2, List.filter_map, Function.comp_def, amV_cat]
theorem amV_narrow {ad : Nat → Nat} {ty : FieldType} {v : Value} (h : narrow ty v = v) : narrow ty (amV ad v) = amV ad v := by
  cases v <;> first | exact h | (cases ty <;> rfl)
theorem amV_fits {ad : Nat → Nat} {ty : FieldType} {v : Value} (h : fits ty v = true) : fits ty (amV ad v) = true := by
  cases v <;> first | exact h | (cases ty <;> first | exact h | rfl)
/-! what one instruction does to the stack -/
noncomputable def amII (f : Int32 → Int32 → Int32) : List Value → Option (List Value)
  | .int y :: .int x :: r => some (.int (f x y) :: r)
  | _ => none
noncomputable def amI (f : Int32 → Value) : List Value → Option (List Value)
  | .int x :: r => some (f x :: r)
  | _ => none
noncomputable def amLL (f : Int64 → Int64 → Value) : List Value → Option (List Value)
  | .long y :: .long x :: r => some (f x y :: r)
  | _ => none
noncomputable def amJ (f : Int64 → Value) : List Value → Option (List Value)
  | .long x :: r => some (f x :: r)
  | _ => none
noncomputable def amLI (f : Int64 → Int32 → Int64) : List Value → Option (List Value)
  | .int y :: .long x :: r => some (.long (f x y) :: r)
  | _ => none
noncomputable def amDiv (f : Int32 → Int32 → Int32) : List Value → Option (List Value)
  | .int y :: .int x :: r => if y = 0 then none else some (.int (f x y) :: r)
  | _ => none
noncomputable def amIf (p : Int32 → Bool) (t e : Nat) : List Value → Option (Nat × List Value)
  | .int x :: r => some (if p x then t else e, r)
  | _ => none
noncomputable def amCmp (p : Int32 → Int32 → Bool) (t e : Nat) : List Value → Option (Nat × List Value)
  | .int y :: .int x :: r => some (if p x y then t else e, r)
  | _ => none
theorem amII_s {f : Int32 → Int32 → Int32} {st r : List Value} (h : amII f st = some r) : ∃ x y q, st = .int y :: .int x :: q ∧ r = .int (f x y) :: q := by
  unfold amII at h
  split at h
  · cases h; exact ⟨_, _, _, rfl, rfl⟩
  · cases h
theorem amI_s {f : Int32 → Value} {st r : List Value} (h : amI f st = some r) : ∃ x q, st = .int x :: q ∧ r = f x :: q := by
  unfold amI at h
  split at h
  · cases h; exact ⟨_, _, rfl, rfl⟩
  · cases h
theorem amLL_s {f : Int64 → Int64 → Value} {st r : List Value} (h : amLL f st = some r) : ∃ x y q, st = .long y :: .long x :: q ∧ r = f x y :: q := by
  unfold amLL at h
  split at h
  · cases h; exact ⟨_, _, _, rfl, rfl⟩
  · cases h
theorem amJ_s {f : Int64 → Value} {st r : List Value} (h : amJ f st = some r) : ∃ x q, st = .long x :: q ∧ r = f x :: q := by
  unfold amJ at h
  split at h
  · cases h; exact ⟨_, _, rfl, rfl⟩
  · cases h
theorem amLI_s {f : Int64 → Int32 → Int64} {st r : List Value} (h : amLI f st = some r) : ∃ x y q, st = .int y :: .long x :: q ∧ r = .long (f x y) :: q := by
  unfold amLI at h
  split at h
  · cases h; exact ⟨_, _, _, rfl, rfl⟩
  · cases h
theorem amDiv_s {f : Int32 → Int32 → Int32} {st r : List Value} (h : amDiv f st = some r) : ∃ x y q, st = .int y :: .int x :: q ∧ ¬ y = 0 ∧ r = .int (f x y) :: q := by
  unfold amDiv at h
  split at h
  · split at h
    · cases h
    · next hn => cases h; exact ⟨_, _, _, rfl, hn, rfl⟩
  · cases h
theorem amIf_s {p : Int32 → Bool} {t e : Nat} {st : List Value} {r : Nat × List Value} (h : amIf p t e st = some r) : ∃ x q, st = .int x :: q ∧ r = (if p x then t else e, q) := by
  unfold amIf at h
  split at h
  · cases h; exact ⟨_, _, rfl, rfl⟩
  · cases h
theorem amCmp_s {p : Int32 → Int32 → Bool} {t e : Nat} {st : List Value} {r : Nat × List Value} (h : amCmp p t e st = some r) : ∃ x y q, st = .int y :: .int x :: q ∧ r = (if p x y then t else e, q) := by
  unfold amCmp at h
  split at h
  · cases h; exact ⟨_, _, _, rfl, rfl⟩
  · cases h
noncomputable def amIfP : Jvm.ClassFile.Cond → Int32 → Bool
  | .eq, x => decide (x = 0)
  | .ne, x => decide (¬ x = 0)
  | .lt, x => decide (x < 0)
  | .ge, x => decide (0 ≤ x)
  | .gt, x => decide (0 < x)
  | .le, x => decide (x ≤ 0)
noncomputable def amCmpP : Jvm.ClassFile.Cond → Int32 → Int32 → Bool
  | .eq, x, y => decide (x = y)
  | .ne, x, y => decide (¬ x = y)
  | .lt, x, y => decide (x < y)
  | .ge, x, y => decide (y ≤ x)
  | .gt, x, y => decide (y < x)
  | .le, x, y => decide (x ≤ y)
/-! what one instruction does to locals and cells -/
noncomputable def amIn (i : Int32) (n : Nat) : Bool := decide (¬ (i < 0 ∨ n ≤ i.toNatClampNeg))
theorem amIn_s {i : Int32} {n : Nat} (h : amIn i n = true) : vp_in i n := of_decide_eq_true (p := ¬ (i < 0 ∨ n ≤ i.toNatClampNeg)) h
noncomputable def amLd (p : Value → Bool) (ls : amL) (k : Nat) (st : List Value) : Option (List Value) := match amGet ls k with
  | some v => if p v then some (v :: st) else none
  | none => none
noncomputable def amIsI : Value → Bool
  | .int _ => true
  | _ => false
noncomputable def amIsJ : Value → Bool
  | .long _ => true
  | _ => false
noncomputable def amIsD : Value → Bool
  | .double _ => true
  | _ => false
noncomputable def amIsA : Value → Bool
  | .ref _ => true
  | .null => true
  | _ => false
noncomputable def amSt1 (p : Value → Bool) (nL : Nat) (ls : amL) (k : Nat) : List Value → Option (amL × List Value)
  | v :: r => if p v && decide (k < nL) then some (amSet1 ls k v, r) else none
  | [] => none
noncomputable def amSt2 (p : Value → Bool) (nL : Nat) (ls : amL) (k : Nat) : List Value → Option (amL × List Value)
  | v :: r => if p v && decide (k + 1 < nL) then some (amSet2 ls k v, r) else none
  | [] => none
theorem amLd_s {p : Value → Bool} {ls : amL} {k : Nat} {st r : List Value} (h : amLd p ls k st = some r) : ∃ v, amGet ls k = some v ∧ p v = true ∧ r = v :: st := by
  unfold amLd at h
  split at h
  · next v e =>
    split at h
    · next e2 => cases h; exact ⟨v, e, e2, rfl⟩
    · cases h
  · cases h
theorem amSt1_s {p : Value → Bool} {nL : Nat} {ls : amL} {k : Nat} {st : List Value} {r : amL × List Value} (h : amSt1 p nL ls k st = some r) : ∃ v q, st = v :: q ∧ p v = true ∧ k < nL ∧ r = (amSet1 ls k v, q) := by
  unfold amSt1 at h
  split at h
  · next v q =>
    split at h
    · next e2 =>
      simp only [Bool.and_eq_true, decide_eq_true_eq] at e2
      cases h; exact ⟨v, q, rfl, e2.1, e2.2, rfl⟩
    · cases h
  · cases h
theorem amSt2_s {p : Value → Bool} {nL : Nat} {ls : amL} {k : Nat} {st : List Value} {r : amL × List Value} (h : amSt2 p nL ls k st = some r) : ∃ v q, st = v :: q ∧ p v = true ∧ k + 1 < nL ∧ r = (amSet2 ls k v, q) := by
  unfold amSt2 at h
  split at h
  · next v q =>
    split at h
    · next e2 =>
      simp only [Bool.and_eq_true, decide_eq_true_eq] at e2
      cases h; exact ⟨v, q, rfl, e2.1, e2.2, rfl⟩
    · cases h
  · cases h
theorem amIsI_s {v : Value} (h : amIsI v = true) : ∃ x, v = .int x := by cases v <;> first | exact ⟨_, rfl⟩ | cases h
theorem amIsJ_s {v : Value} (h : amIsJ v = true) : ∃ x, v = .long x := by cases v <;> first | exact ⟨_, rfl⟩ | cases h
theorem amIsD_s {v : Value} (h : amIsD v = true) : ∃ x, v = .double x := by cases v <;> first | exact ⟨_, rfl⟩ | cases h
theorem amIsA_s {v : Value} (h : amIsA v = true) : v = .null ∨ ∃ x, v = .ref x := by cases v <;> first | exact Or.inr ⟨_, rfl⟩ | exact Or.inl rfl | cases h
noncomputable def amInc (nL : Nat) (ls : amL) (k : Nat) (n : Int) : Option amL := match amGet ls k with
  | some (.int x) => if k < nL then some (amSet1 ls k (.int (x + Int32.ofInt n))) else none
  | _ => none
theorem amInc_s {nL : Nat} {ls r : amL} {k : Nat} {n : Int} (h : amInc nL ls k n = some r) : ∃ x, amGet ls k = some (.int x) ∧ k < nL ∧ r = amSet1 ls k (.int (x + Int32.ofInt n)) := by
  unfold amInc at h
  split at h
  · next x e =>
    split at h
    · next e2 => cases h; exact ⟨x, e, e2, rfl⟩
    · cases h
  · cases h
/-- a row read: of the kind t -/
noncomputable def amALd (t : Nat) (p : Value → Bool) (hp : amH) : List Value → Option (List Value)
  | .int i :: .ref a :: r => match hp[a]? with
    | some c => if c.1 = t ∧ amIn i c.2.length = true ∧ p (c.2.getD i.toNatClampNeg .null) = true then some (c.2.getD i.toNatClampNeg .null :: r) else none
    | none => none
  | _ => none
theorem amALd_s {t : Nat} {p : Value → Bool} {hp : amH} {st r : List Value} (h : amALd t p hp st = some r) : ∃ i a q c, st = .int i :: .ref a :: q ∧ hp[a]? = some (t, c) ∧ vp_in i c.length ∧ p (c.getD i.toNatClampNeg .null) = true ∧ r = c.getD i.toNatClampNeg .null :: q := by
  unfold amALd at h
  split at h
  · next i a q =>
    split at h
    · next c e =>
      split at h
      · next e2 =>
        obtain ⟨t', c⟩ := c
        obtain ⟨e3, e4, e5⟩ := e2
        dsimp only at e3
        subst e3
        cases h; exact ⟨i, a, q, c, rfl, e, amIn_s e4, e5, rfl⟩
      · cases h
    · cases h
  · cases h
/-- a row written -/
noncomputable def amASt (t : Nat) (p : Value → Bool) (g : Value → Value) (hp : amH) : List Value → Option (List Value × amH)
  | v :: .int i :: .ref a :: r => match hp[a]? with
    | some c => if c.1 = t ∧ amIn i c.2.length = true ∧ p v = true then some (r, hp.set a (t, c.2.set i.toNatClampNeg (g v))) else none
    | none => none
  | _ => none
theorem amASt_s {t : Nat} {p : Value → Bool} {g : Value → Value} {hp : amH} {st : List Value} {r : List Value × amH} (h : amASt t p g hp st = some r) : ∃ v i a q c, st = v :: .int i :: .ref a :: q ∧ hp[a]? = some (t, c) ∧ vp_in i c.length ∧ p v = true ∧ r = (q, hp.set a (t, c.set i.toNatClampNeg (g v))) := by
  unfold amASt at h
  split at h
  · next v i a q =>
    split at h
    · next c e =>
      split at h
      · next e2 =>
        obtain ⟨t', c⟩ := c
        obtain ⟨e3, e4, e5⟩ := e2
        dsimp only at e3
        subst e3
        cases h; exact ⟨v, i, a, q, c, rfl, e, amIn_s e4, e5, rfl⟩
      · cases h
    · cases h
  · cases h
noncomputable def amNarB : Value → Value
  | .int x => .int (vp_nar .byte x)
  | v => v
/-- an object's field read -/
noncomputable def amFGet (ci k : Nat) (hp : amH) : List Value → Option (List Value)
  | .ref a :: r => match hp[a]? with
    | some c => if c.1 = ci ∧ ci < 32 then (match c.2[k]? with
      | some v => some (v :: r)
      | none => none) else none
    | none => none
  | _ => none
theorem amFGet_s {ci k : Nat} {hp : amH} {st r : List Value} (h : amFGet ci k hp st = some r) : ∃ a q c v, st = .ref a :: q ∧ hp[a]? = some (ci, c) ∧ ci < 32 ∧ c[k]? = some v ∧ r = v :: q := by
  unfold amFGet at h
  split at h
  · next a q =>
    split at h
    · next c e =>
      split at h
      · next e2 =>
        obtain ⟨t', c⟩ := c
        obtain ⟨e3, e4⟩ := e2
        dsimp only at e3
        subst e3
        split at h
        · next v e5 => cases h; exact ⟨a, q, c, v, rfl, e, e4, e5, rfl⟩
        · cases h
      · cases h
    · cases h
  · cases h
/-- an object's field written: its type is ty -/
noncomputable def amFSet (ci k : Nat) (ty : FieldType) (hp : amH) : List Value → Option (List Value × amH)
  | v :: .ref a :: r => match hp[a]? with
    | some c => if c.1 = ci ∧ ci < 32 ∧ k < c.2.length ∧ narrow ty v = v ∧ fits ty v = true then some (r, hp.set a (ci, c.2.set k v)) else none
    | none => none
  | _ => none
theorem amFSet_s {ci k : Nat} {ty : FieldType} {hp : amH} {st : List Value} {r : List Value × amH} (h : amFSet ci k ty hp st = some r) : ∃ v a q c, st = v :: .ref a :: q ∧ hp[a]? = some (ci, c) ∧ ci < 32 ∧ k < c.length ∧ narrow ty v = v ∧ fits ty v = true ∧ r = (q, hp.set a (ci, c.set k v)) := by
  unfold amFSet at h
  split at h
  · next v a q =>
    split at h
    · next c e =>
      split at h
      · next e2 =>
        obtain ⟨t', c⟩ := c
        obtain ⟨e3, e4, e5, e6, e7⟩ := e2
        dsimp only at e3
        subst e3
        cases h; exact ⟨v, a, q, c, rfl, e, e4, e5, e6, e7, rfl⟩
      · cases h
    · cases h
  · cases h
noncomputable def amLen (hp : amH) : List Value → Option (List Value)
  | .ref a :: r => match hp[a]? with
    | some c => if 32 ≤ c.1 ∧ c.1 ≤ 35 then some (.int (Int32.ofNat c.2.length) :: r) else none
    | none => none
  | _ => none
theorem amLen_s {hp : amH} {st r : List Value} (h : amLen hp st = some r) : ∃ a q t c, st = .ref a :: q ∧ hp[a]? = some (t, c) ∧ 32 ≤ t ∧ t ≤ 35 ∧ r = .int (Int32.ofNat c.length) :: q := by
  unfold amLen at h
  split at h
  · next a q =>
    split at h
    · next c e =>
      split at h
      · next e2 => cases h; exact ⟨a, q, c.1, c.2, rfl, e, e2.1, e2.2, rfl⟩
      · cases h
    · cases h
  · cases h
/-- the script read -/
noncomputable def amSc (sc : Option (List Int32)) : List Value → Option (List Value)
  | .int i :: .ref a :: r => match sc with
    | some l => if a = amS ∧ amIn i l.length = true then some (.int (l.getD i.toNatClampNeg 0) :: r) else none
    | none => none
  | _ => none
theorem amSc_s {sc : Option (List Int32)} {st r : List Value} (h : amSc sc st = some r) : ∃ i q l, sc = some l ∧ st = .int i :: .ref amS :: q ∧ vp_in i l.length ∧ r = .int (l.getD i.toNatClampNeg 0) :: q := by
  unfold amSc at h
  split at h
  · next i a q =>
    split at h
    · next l =>
      split at h
      · next e =>
        obtain ⟨e1, e2⟩ := e
        subst e1
        cases h; exact ⟨i, q, l, rfl, rfl, amIn_s e2, rfl⟩
      · cases h
    · cases h
  · cases h
noncomputable def amScLen (sc : Option (List Int32)) : List Value → Option (List Value)
  | .ref a :: r => match sc with
    | some l => if a = amS then some (.int (Int32.ofNat l.length) :: r) else none
    | none => none
  | _ => none
theorem amScLen_s {sc : Option (List Int32)} {st r : List Value} (h : amScLen sc st = some r) : ∃ q l, sc = some l ∧ st = .ref amS :: q ∧ r = .int (Int32.ofNat l.length) :: q := by
  unfold amScLen at h
  split at h
  · next a q =>
    split at h
    · next l =>
      split at h
      · next e =>
        subst e
        cases h; exact ⟨q, l, rfl, rfl, rfl⟩
      · cases h
    · cases h
  · cases h
/-- the types of the fields, by class and place -/
noncomputable def amFty (ci k : Nat) : FieldType := match vwCl[ci]? with
  | some r => (parseFieldDescriptor (r.2.1 k).2.2.1).getD .int
  | none => .int
noncomputable def amOff (x dflt lo hi : Int) (offs : Array Int) : Option Int := if x < lo ∨ hi < x then some dflt else offs[(x - lo).toNat]?
noncomputable def amTbl (pc : Nat) (dflt lo hi : Int) (offs : Array Int) : List Value → Option (Nat × List Value)
  | .int x :: r => match amOff x.toInt dflt lo hi offs with
    | some o => if 0 ≤ (pc : Int) + o then some (((pc : Int) + o).toNat, r) else none
    | none => none
  | _ => none
noncomputable def amIsSn (hp : amH) : Value → Bool
  | .ref k => (match hp[k]? with
    | some c => decide (c.1 = 6)
    | none => false)
  | _ => false
abbrev amR : Type := Nat × amL × List Value × amH
/-- one instruction that neither calls nor makes nor ends; a, b: what it is linked to; nL: how many locals -/
noncomputable def amStep (sc : Option (List Int32)) (nL : Nat) (i : Instr) (a b : Nat) (pc : Nat) (ls : amL) (st : List Value) (hp : amH) : Option amR :=
  match i with
  | .iconst n => some (pc + 1, ls, .int (Int32.ofInt n) :: st, hp)
  | .bipush n => some (pc + 2, ls, .int (Int8.ofInt n).toInt32 :: st, hp)
  | .sipush n => some (pc + 3, ls, .int (Int16.ofInt n).toInt32 :: st, hp)
  | .lconst n => some (pc + 1, ls, .long (Int64.ofNat (n : Nat)) :: st, hp)
  | .fconst n => if n = 0 then some (pc + 1, ls, .float FP.fconst0 :: st, hp) else none
  | .dconst n => if n = 0 then some (pc + 1, ls, .double FP.dconst0 :: st, hp) else none
  | .ldc _ => if b = 0 then some (pc + 2, ls, .int (Int32.ofNat a) :: st, hp) else some (pc + 2, ls, .ref (amK + a) :: st, hp)
  | .ldc_w _ => if b = 0 then some (pc + 3, ls, .int (Int32.ofNat a) :: st, hp) else some (pc + 3, ls, .ref (amK + a) :: st, hp)
  | .ldc2_w _ => some (pc + 3, ls, .long (Int64.ofNat a) :: st, hp)
  | .iload k => (amLd amIsI ls k st).map (fun s => (pc + 2, ls, s, hp))
  | .iload_n k => (amLd amIsI ls k st).map (fun s => (pc + 1, ls, s, hp))
  | .lload k => (amLd amIsJ ls k st).map (fun s => (pc + 2, ls, s, hp))
  | .lload_n k => (amLd amIsJ ls k st).map (fun s => (pc + 1, ls, s, hp))
  | .dload k => (amLd amIsD ls k st).map (fun s => (pc + 2, ls, s, hp))
  | .dload_n k => (amLd amIsD ls k st).map (fun s => (pc + 1, ls, s, hp))
  | .aload k => (amLd amIsA ls k st).map (fun s => (pc + 2, ls, s, hp))
  | .aload_n k => (amLd amIsA ls k st).map (fun s => (pc + 1, ls, s, hp))
  | .istore k => (amSt1 amIsI nL ls k st).map (fun q => (pc + 2, q.1, q.2, hp))
  | .istore_n k => (amSt1 amIsI nL ls k st).map (fun q => (pc + 1, q.1, q.2, hp))
  | .lstore k => (amSt2 amIsJ nL ls k st).map (fun q => (pc + 2, q.1, q.2, hp))
  | .lstore_n k => (amSt2 amIsJ nL ls k st).map (fun q => (pc + 1, q.1, q.2, hp))
  | .dstore k => (amSt2 amIsD nL ls k st).map (fun q => (pc + 2, q.1, q.2, hp))
  | .astore k => (amSt1 amIsA nL ls k st).map (fun q => (pc + 2, q.1, q.2, hp))
  | .astore_n k => (amSt1 amIsA nL ls k st).map (fun q => (pc + 1, q.1, q.2, hp))
  | .iinc k n => (amInc nL ls k n).map (fun q => (pc + 3, q, st, hp))
  | .dup => match st with
    | v :: r => if v.category = 1 then some (pc + 1, ls, v :: v :: r, hp) else none
    | [] => none
  | .dup2 => match st with
    | v :: w :: r => if v.category = 1 ∧ w.category = 1 then some (pc + 1, ls, v :: w :: v :: w :: r, hp) else none
    | _ => none
  | .pop => match st with
    | v :: r => if v.category = 1 then some (pc + 1, ls, r, hp) else none
    | [] => none
  | .iadd => (amII (fun x y => x + y) st).map (fun s => (pc + 1, ls, s, hp))
  | .isub => (amII (fun x y => x - y) st).map (fun s => (pc + 1, ls, s, hp))
  | .imul => (amII (fun x y => x * y) st).map (fun s => (pc + 1, ls, s, hp))
  | .iand => (amII (fun x y => x &&& y) st).map (fun s => (pc + 1, ls, s, hp))
  | .ior => (amII (fun x y => x ||| y) st).map (fun s => (pc + 1, ls, s, hp))
  | .ixor => (amII (fun x y => x ^^^ y) st).map (fun s => (pc + 1, ls, s, hp))
  | .ishl => (amII (fun x y => x <<< (y &&& 31)) st).map (fun s => (pc + 1, ls, s, hp))
  | .ishr => (amII (fun x y => x >>> (y &&& 31)) st).map (fun s => (pc + 1, ls, s, hp))
  | .iushr => (amII (fun x y => (x.toUInt32 >>> (y.toUInt32 &&& Int32.toUInt32 31)).toInt32) st).map (fun s => (pc + 1, ls, s, hp))
  | .idiv => (amDiv (fun x y => x / y) st).map (fun s => (pc + 1, ls, s, hp))
  | .irem => (amDiv (fun x y => x - x / y * y) st).map (fun s => (pc + 1, ls, s, hp))
  | .ineg => (amI (fun x => .int (-x)) st).map (fun s => (pc + 1, ls, s, hp))
  | .i2b => (amI (fun x => .int x.toInt8.toInt32) st).map (fun s => (pc + 1, ls, s, hp))
  | .i2l => (amI (fun x => .long x.toInt64) st).map (fun s => (pc + 1, ls, s, hp))
  | .i2f => (amI (fun x => .float (FP.i2f x)) st).map (fun s => (pc + 1, ls, s, hp))
  | .i2d => (amI (fun x => .double (FP.i2d x)) st).map (fun s => (pc + 1, ls, s, hp))
  | .l2i => (amJ (fun x => .int x.toInt32) st).map (fun s => (pc + 1, ls, s, hp))
  | .lneg => (amJ (fun x => .long (-x)) st).map (fun s => (pc + 1, ls, s, hp))
  | .ladd => (amLL (fun x y => .long (x + y)) st).map (fun s => (pc + 1, ls, s, hp))
  | .lsub => (amLL (fun x y => .long (x - y)) st).map (fun s => (pc + 1, ls, s, hp))
  | .land => (amLL (fun x y => .long (x &&& y)) st).map (fun s => (pc + 1, ls, s, hp))
  | .lor => (amLL (fun x y => .long (x ||| y)) st).map (fun s => (pc + 1, ls, s, hp))
  | .lcmp => (amLL (fun x y => .int (lg_cmp x y)) st).map (fun s => (pc + 1, ls, s, hp))
  | .lshl => (amLI (fun x y => x <<< (y.toInt64 &&& 63)) st).map (fun s => (pc + 1, ls, s, hp))
  | .lshr => (amLI (fun x y => x >>> (y.toInt64 &&& 63)) st).map (fun s => (pc + 1, ls, s, hp))
  | .lushr => (amLI (fun x y => (x.toUInt64 >>> (y.toInt64.toUInt64 &&& Int64.toUInt64 63)).toInt64) st).map (fun s => (pc + 1, ls, s, hp))
  | .fdiv => match st with
    | .float y :: .float x :: r => if FP.fdiv x y &&& 0x7fffffff ≤ 0x7f800000 then some (pc + 1, ls, .float (FP.fdiv x y) :: r, hp) else none
    | _ => none
  | .ddiv => match st with
    | .double y :: .double x :: r => if FP.ddiv x y &&& 0x7fffffffffffffff ≤ 0x7ff0000000000000 then some (pc + 1, ls, .double (FP.ddiv x y) :: r, hp) else none
    | _ => none
  | .f2d => match st with
    | .float x :: r => if FP.f2d x &&& 0x7fffffffffffffff ≤ 0x7ff0000000000000 then some (pc + 1, ls, .double (FP.f2d x) :: r, hp) else none
    | _ => none
  | .dcmp op => match st with
    | .double y :: .double x :: r => some (pc + 1, ls, .int (Op.cmpValue (FP.dcmp x y) op) :: r, hp)
    | _ => none
  | .goto _ => some (a, ls, st, hp)
  | .ifCond c _ => (amIf (amIfP c) a (pc + 3) st).map (fun q => (q.1, ls, q.2, hp))
  | .if_icmp c _ => (amCmp (amCmpP c) a (pc + 3) st).map (fun q => (q.1, ls, q.2, hp))
  | .ifnull _ => match st with
    | .ref _ :: r => some (pc + 3, ls, r, hp)
    | .null :: r => some (a, ls, r, hp)
    | _ => none
  | .ifnonnull _ => match st with
    | .ref _ :: r => some (a, ls, r, hp)
    | .null :: r => some (pc + 3, ls, r, hp)
    | _ => none
  | .tableswitch d lo hi offs => (amTbl pc d lo hi offs st).map (fun q => (q.1, ls, q.2, hp))
  | .getfield _ => (amFGet a b hp st).map (fun s => (pc + 3, ls, s, hp))
  | .putfield _ => (amFSet a b (amFty a b) hp st).map (fun q => (pc + 3, ls, q.1, q.2))
  | .iaload => match amSc sc st with
    | some s => some (pc + 1, ls, s, hp)
    | none => (amALd 32 amIsI hp st).map (fun s => (pc + 1, ls, s, hp))
  | .laload => (amALd 33 amIsJ hp st).map (fun s => (pc + 1, ls, s, hp))
  | .baload => (amALd 34 amIsI hp st).map (fun s => (pc + 1, ls, s, hp))
  | .aaload => (amALd 35 amIsA hp st).map (fun s => (pc + 1, ls, s, hp))
  | .iastore => (amASt 32 amIsI id hp st).map (fun q => (pc + 1, ls, q.1, q.2))
  | .lastore => (amASt 33 amIsJ id hp st).map (fun q => (pc + 1, ls, q.1, q.2))
  | .bastore => (amASt 34 amIsI amNarB hp st).map (fun q => (pc + 1, ls, q.1, q.2))
  | .aastore => (amASt 35 (amIsSn hp) id hp st).map (fun q => (pc + 1, ls, q.1, q.2))
  | .arraylength => match amScLen sc st with
    | some s => some (pc + 1, ls, s, hp)
    | none => (amLen hp st).map (fun s => (pc + 1, ls, s, hp))
  | _ => none
