/-! ##### 02.machine ##### -/
section
/-! ===== the abstract machine (am_): a frame's locals, stack and a heap of numbered cells; what one instruction does ===== -/
abbrev amC : Type := Nat × List Value
abbrev amH : Type := List amC
abbrev amL : Type := List (Nat × Value)
/-- numbers from here on name constants, not cells -/
def amK : Nat := 1000000
/-- the script's number -/
def amS : Nat := 1999999
def amV (ad : Nat → Nat) : Value → Value
  | .ref i => .ref (ad i)
  | v => v
def amInt : Value → Int32
  | .int x => x
  | _ => 0
def amLong : Value → Int64
  | .long x => x
  | _ => 0
def amRef (ad : Nat → Nat) : Value → Option Nat
  | .ref i => some (ad i)
  | _ => none
def amTys (dA : Nat → ClassId) : List (ClassId × FieldType) := [(dA 0, .int), (dA 1, .long), (dA 2, .byte), (dA 3, .object "TripleTrains$Snapshot")]
/-- a cell as the kit's worlds have it: rows by their kinds from 32 on, objects by their classes' places -/
def amE (dA : Nat → ClassId) (ad : Nat → Nat) (c : amC) : va_E :=
  if c.1 = 32 then .inl (dA 0, c.2.length, .inl (fun j => amInt (c.2.getD j .null)))
  else if c.1 = 33 then .inl (dA 1, c.2.length, .inr (.inl (fun j => amLong (c.2.getD j .null))))
  else if c.1 = 34 then .inl (dA 2, c.2.length, .inl (fun j => amInt (c.2.getD j .null)))
  else if c.1 = 35 then .inl (dA 3, c.2.length, .inr (.inr (.inr (.inr (fun j => amRef ad (c.2.getD j .null))))))
  else .inr (c.1, c.2.map (amV ad))
def amW (dA : Nat → ClassId) (ad : Nat → Nat) (hp : amH) : va_W := hp.mapIdx (fun i c => (ad i, amE dA ad c))
def amLs (ad : Nat → Nat) (ls : amL) : List (Nat × Value) := ls.map (fun q => (q.1, amV ad q.2))
theorem amW_get {dA : Nat → ClassId} {ad : Nat → Nat} {hp : amH} {i : Nat} {c : amC} (h : hp[i]? = some c) : (amW dA ad hp)[i]? = some (ad i, amE dA ad c) := by
  simp [amW, h]
theorem amW_set {dA : Nat → ClassId} {ad : Nat → Nat} {hp : amH} {i : Nat} {c : amC} : (amW dA ad hp).set i (ad i, amE dA ad c) = amW dA ad (hp.set i c) := by
  apply List.ext_getElem?
  intro j
  simp only [amW, List.getElem?_set, List.getElem?_mapIdx, List.length_mapIdx]
  by_cases h : i = j
  · subst h
    by_cases h2 : i < hp.length
    · simp [h2]
    · simp [h2]
  · simp [h]
theorem amW_push {dA : Nat → ClassId} {ad : Nat → Nat} {hp : amH} {c : amC} : amW dA ad (hp ++ [c]) = amW dA ad hp ++ [(ad hp.length, amE dA ad c)] := by
  simp [amW, List.mapIdx_append]
theorem amV_cat (ad : Nat → Nat) (v : Value) : (amV ad v).category = v.category := by cases v <;> rfl
theorem amLs_mem {ad : Nat → Nat} {ls : amL} {i : Nat} {v : Value} (h : (i, v) ∈ ls) : (i, amV ad v) ∈ amLs ad ls := List.mem_map.mpr ⟨(i, v), h, rfl⟩
def amGet : amL → Nat → Option Value
  | [], _ => none
  | q :: r, i => if q.1 = i then some q.2 else amGet r i
theorem amGet_mem {ls : amL} {i : Nat} {v : Value} (h : amGet ls i = some v) : (i, v) ∈ ls := by
  induction ls with
  | nil => cases h
  | cons q r ih =>
    unfold amGet at h
    split at h
    · next e => cases h; subst e; exact List.mem_cons_self
    · exact List.mem_cons_of_mem _ (ih h)
theorem amGet_has {ad : Nat → Nat} {ls : amL} {i nL : Nat} {v : Value} {lsA : Array Slot} (hl : lv_has lsA nL (amLs ad ls)) (h : amGet ls i = some v) : lsA[i]? = some (.val (amV ad v)) := hl.2.2 _ (amLs_mem (amGet_mem h))
def amSet1 (ls : amL) (i : Nat) (v : Value) : amL := (i, v) :: ls.filter (fun q => !(q.1 == i) && !(q.1 + 1 == i && q.2.category == 2))
def amSet2 (ls : amL) (i : Nat) (v : Value) : amL := (i, v) :: ls.filter (fun q => !(q.1 == i) && (!(q.1 == i + 1) && !(q.1 + 1 == i && q.2.category == 2)))
theorem amSet1_ls (ad : Nat → Nat) (ls : amL) (i : Nat) (v : Value) : (i, amV ad v) :: (amLs ad ls).filter (fun q => !(q.1 == i) && !(q.1 + 1 == i && q.2.category == 2)) = amLs ad (amSet1 ls i v) := by
  simp [amLs, amSet1, List.filter_map, Function.comp_def, amV_cat]
theorem amSet2_ls (ad : Nat → Nat) (ls : amL) (i : Nat) (v : Value) : (i, amV ad v) :: (amLs ad ls).filter (fun q => !(q.1 == i) && (!(q.1 == i + 1) && !(q.1 + 1 == i && q.2.category == 2))) = amLs ad (amSet2 ls i v) := by
  simp [amLs, amSet2, List.filter_map, Function.comp_def, amV_cat]
theorem amV_narrow {ad : Nat → Nat} {ty : FieldType} {v : Value} (h : narrow ty v = v) : narrow ty (amV ad v) = amV ad v := by
  cases v <;> first | exact h | (cases ty <;> rfl)
theorem amV_fits {ad : Nat → Nat} {ty : FieldType} {v : Value} (h : fits ty v = true) : fits ty (amV ad v) = true := by
  cases v <;> first | exact h | (cases ty <;> first | exact h | rfl)
/-! what one instruction does to the stack -/
def amII (f : Int32 → Int32 → Int32) : List Value → Option (List Value)
  | .int y :: .int x :: r => some (.int (f x y) :: r)
  | _ => none
def amI (f : Int32 → Value) : List Value → Option (List Value)
  | .int x :: r => some (f x :: r)
  | _ => none
def amLL (f : Int64 → Int64 → Value) : List Value → Option (List Value)
  | .long y :: .long x :: r => some (f x y :: r)
  | _ => none
def amJ (f : Int64 → Value) : List Value → Option (List Value)
  | .long x :: r => some (f x :: r)
  | _ => none
def amLI (f : Int64 → Int32 → Int64) : List Value → Option (List Value)
  | .int y :: .long x :: r => some (.long (f x y) :: r)
  | _ => none
def amDiv (f : Int32 → Int32 → Int32) : List Value → Option (List Value)
  | .int y :: .int x :: r => if y = 0 then none else some (.int (f x y) :: r)
  | _ => none
def amIf (p : Int32 → Bool) (t e : Nat) : List Value → Option (Nat × List Value)
  | .int x :: r => some (if p x then t else e, r)
  | _ => none
def amCmp (p : Int32 → Int32 → Bool) (t e : Nat) : List Value → Option (Nat × List Value)
  | .int y :: .int x :: r => some (if p x y then t else e, r)
  | _ => none
theorem amII_s {f : Int32 → Int32 → Int32} {st r : List Value} (h : amII f st = some r) : ∃ x y q, st = .int y :: .int x :: q ∧ r = .int (f x y) :: q := by
  unfold amII at h
  split at h
  · cases h; exact ⟨_, _, _, rfl, rfl⟩
  · cases h
theorem amI_s {f : Int32 → Value} {st r : List Value} (h : amI f st = some r) : ∃ x q, st = .int x :: q ∧ r = f x :: q := by
  unfold amI at h
  split at h
  · cases h; exact ⟨_, _, rfl, rfl⟩
  · cases h
theorem amLL_s {f : Int64 → Int64 → Value} {st r : List Value} (h : amLL f st = some r) : ∃ x y q, st = .long y :: .long x :: q ∧ r = f x y :: q := by
  unfold amLL at h
  split at h
  · cases h; exact ⟨_, _, _, rfl, rfl⟩
  · cases h
theorem amJ_s {f : Int64 → Value} {st r : List Value} (h : amJ f st = some r) : ∃ x q, st = .long x :: q ∧ r = f x :: q := by
  unfold amJ at h
  split at h
  · cases h; exact ⟨_, _, rfl, rfl⟩
  · cases h
theorem amLI_s {f : Int64 → Int32 → Int64} {st r : List Value} (h : amLI f st = some r) : ∃ x y q, st = .int y :: .long x :: q ∧ r = .long (f x y) :: q := by
  unfold amLI at h
  split at h
  · cases h; exact ⟨_, _, _, rfl, rfl⟩
  · cases h
theorem amDiv_s {f : Int32 → Int32 → Int32} {st r : List Value} (h : amDiv f st = some r) : ∃ x y q, st = .int y :: .int x :: q ∧ ¬ y = 0 ∧ r = .int (f x y) :: q := by
  unfold amDiv at h
  split at h
  · split at h
    · cases h
    · next hn => cases h; exact ⟨_, _, _, rfl, hn, rfl⟩
  · cases h
theorem amIf_s {p : Int32 → Bool} {t e : Nat} {st : List Value} {r : Nat × List Value} (h : amIf p t e st = some r) : ∃ x q, st = .int x :: q ∧ r = (if p x then t else e, q) := by
  unfold amIf at h
  split at h
  · cases h; exact ⟨_, _, rfl, rfl⟩
  · cases h
theorem amCmp_s {p : Int32 → Int32 → Bool} {t e : Nat} {st : List Value} {r : Nat × List Value} (h : amCmp p t e st = some r) : ∃ x y q, st = .int y :: .int x :: q ∧ r = (if p x y then t else e, q) := by
  unfold amCmp at h
  split at h
  · cases h; exact ⟨_, _, _, rfl, rfl⟩
  · cases h
def amIfP : Jvm.ClassFile.Cond → Int32 → Bool
  | .eq, x => decide (x = 0)
  | .ne, x => decide (¬ x = 0)
  | .lt, x => decide (x < 0)
  | .ge, x => decide (0 ≤ x)
  | .gt, x => decide (0 < x)
  | .le, x => decide (x ≤ 0)
def amCmpP : Jvm.ClassFile.Cond → Int32 → Int32 → Bool
  | .eq, x, y => decide (x = y)
  | .ne, x, y => decide (¬ x = y)
  | .lt, x, y => decide (x < y)
  | .ge, x, y => decide (y ≤ x)
  | .gt, x, y => decide (y < x)
  | .le, x, y => decide (x ≤ y)
/-! what one instruction does to locals and cells -/
def amIn (i : Int32) (n : Nat) : Bool := decide (¬ (i < 0 ∨ n ≤ i.toNatClampNeg))
theorem amIn_s {i : Int32} {n : Nat} (h : amIn i n = true) : vp_in i n := of_decide_eq_true (p := ¬ (i < 0 ∨ n ≤ i.toNatClampNeg)) h
def amLd (p : Value → Bool) (ls : amL) (k : Nat) (st : List Value) : Option (List Value) := match amGet ls k with
  | some v => if p v then some (v :: st) else none
  | none => none
def amIsI : Value → Bool
  | .int _ => true
  | _ => false
def amIsJ : Value → Bool
  | .long _ => true
  | _ => false
def amIsD : Value → Bool
  | .double _ => true
  | _ => false
def amIsA : Value → Bool
  | .ref _ => true
  | .null => true
  | _ => false
def amSt1 (p : Value → Bool) (nL : Nat) (ls : amL) (k : Nat) : List Value → Option (amL × List Value)
  | v :: r => if p v && decide (k < nL) then some (amSet1 ls k v, r) else none
  | [] => none
def amSt2 (p : Value → Bool) (nL : Nat) (ls : amL) (k : Nat) : List Value → Option (amL × List Value)
  | v :: r => if p v && decide (k + 1 < nL) then some (amSet2 ls k v, r) else none
  | [] => none
theorem amLd_s {p : Value → Bool} {ls : amL} {k : Nat} {st r : List Value} (h : amLd p ls k st = some r) : ∃ v, amGet ls k = some v ∧ p v = true ∧ r = v :: st := by
  unfold amLd at h
  split at h
  · next v e =>
    split at h
    · next e2 => cases h; exact ⟨v, e, e2, rfl⟩
    · cases h
  · cases h
theorem amSt1_s {p : Value → Bool} {nL : Nat} {ls : amL} {k : Nat} {st : List Value} {r : amL × List Value} (h : amSt1 p nL ls k st = some r) : ∃ v q, st = v :: q ∧ p v = true ∧ k < nL ∧ r = (amSet1 ls k v, q) := by
  unfold amSt1 at h
  split at h
  · next v q =>
    split at h
    · next e2 =>
      simp only [Bool.and_eq_true, decide_eq_true_eq] at e2
      cases h; exact ⟨v, q, rfl, e2.1, e2.2, rfl⟩
    · cases h
  · cases h
theorem amSt2_s {p : Value → Bool} {nL : Nat} {ls : amL} {k : Nat} {st : List Value} {r : amL × List Value} (h : amSt2 p nL ls k st = some r) : ∃ v q, st = v :: q ∧ p v = true ∧ k + 1 < nL ∧ r = (amSet2 ls k v, q) := by
  unfold amSt2 at h
  split at h
  · next v q =>
    split at h
    · next e2 =>
      simp only [Bool.and_eq_true, decide_eq_true_eq] at e2
      cases h; exact ⟨v, q, rfl, e2.1, e2.2, rfl⟩
    · cases h
  · cases h
theorem amIsI_s {v : Value} (h : amIsI v = true) : ∃ x, v = .int x := by cases v <;> first | exact ⟨_, rfl⟩ | cases h
theorem amIsJ_s {v : Value} (h : amIsJ v = true) : ∃ x, v = .long x := by cases v <;> first | exact ⟨_, rfl⟩ | cases h
theorem amIsD_s {v : Value} (h : amIsD v = true) : ∃ x, v = .double x := by cases v <;> first | exact ⟨_, rfl⟩ | cases h
theorem amIsA_s {v : Value} (h : amIsA v = true) : v = .null ∨ ∃ x, v = .ref x := by cases v <;> first | exact Or.inr ⟨_, rfl⟩ | exact Or.inl rfl | cases h
def amInc (nL : Nat) (ls : amL) (k : Nat) (n : Int) : Option amL := match amGet ls k with
  | some (.int x) => if k < nL then some (amSet1 ls k (.int (x + Int32.ofInt n))) else none
  | _ => none
theorem amInc_s {nL : Nat} {ls r : amL} {k : Nat} {n : Int} (h : amInc nL ls k n = some r) : ∃ x, amGet ls k = some (.int x) ∧ k < nL ∧ r = amSet1 ls k (.int (x + Int32.ofInt n)) := by
  unfold amInc at h
  split at h
  · next x e =>
    split at h
    · next e2 => cases h; exact ⟨x, e, e2, rfl⟩
    · cases h
  · cases h
/-- a row read: of the kind t -/
def amALd (t : Nat) (p : Value → Bool) (hp : amH) : List Value → Option (List Value)
  | .int i :: .ref a :: r => match hp[a]? with
    | some c => if c.1 = t ∧ amIn i c.2.length = true ∧ p (c.2.getD i.toNatClampNeg .null) = true then some (c.2.getD i.toNatClampNeg .null :: r) else none
    | none => none
  | _ => none
theorem amALd_s {t : Nat} {p : Value → Bool} {hp : amH} {st r : List Value} (h : amALd t p hp st = some r) : ∃ i a q c, st = .int i :: .ref a :: q ∧ hp[a]? = some (t, c) ∧ vp_in i c.length ∧ p (c.getD i.toNatClampNeg .null) = true ∧ r = c.getD i.toNatClampNeg .null :: q := by
  unfold amALd at h
  split at h
  · next i a q =>
    split at h
    · next c e =>
      split at h
      · next e2 =>
        obtain ⟨t', c⟩ := c
        obtain ⟨e3, e4, e5⟩ := e2
        dsimp only at e3
        subst e3
        cases h; exact ⟨i, a, q, c, rfl, e, amIn_s e4, e5, rfl⟩
      · cases h
    · cases h
  · cases h
/-- a row written -/
def amASt (t : Nat) (p : Value → Bool) (g : Value → Value) (hp : amH) : List Value → Option (List Value × amH)
  | v :: .int i :: .ref a :: r => match hp[a]? with
    | some c => if c.1 = t ∧ amIn i c.2.length = true ∧ p v = true then some (r, hp.set a (t, c.2.set i.toNatClampNeg (g v))) else none
    | none => none
  | _ => none
theorem amASt_s {t : Nat} {p : Value → Bool} {g : Value → Value} {hp : amH} {st : List Value} {r : List Value × amH} (h : amASt t p g hp st = some r) : ∃ v i a q c, st = v :: .int i :: .ref a :: q ∧ hp[a]? = some (t, c) ∧ vp_in i c.length ∧ p v = true ∧ r = (q, hp.set a (t, c.set i.toNatClampNeg (g v))) := by
  unfold amASt at h
  split at h
  · next v i a q =>
    split at h
    · next c e =>
      split at h
      · next e2 =>
        obtain ⟨t', c⟩ := c
        obtain ⟨e3, e4, e5⟩ := e2
        dsimp only at e3
        subst e3
        cases h; exact ⟨v, i, a, q, c, rfl, e, amIn_s e4, e5, rfl⟩
      · cases h
    · cases h
  · cases h
def amNarB : Value → Value
  | .int x => .int (vp_nar .byte x)
  | v => v
/-- an object's field read -/
def amFGet (ci k : Nat) (hp : amH) : List Value → Option (List Value)
  | .ref a :: r => match hp[a]? with
    | some c => if c.1 = ci ∧ ci < 32 then (match c.2[k]? with
      | some v => some (v :: r)
      | none => none) else none
    | none => none
  | _ => none
theorem amFGet_s {ci k : Nat} {hp : amH} {st r : List Value} (h : amFGet ci k hp st = some r) : ∃ a q c v, st = .ref a :: q ∧ hp[a]? = some (ci, c) ∧ ci < 32 ∧ c[k]? = some v ∧ r = v :: q := by
  unfold amFGet at h
  split at h
  · next a q =>
    split at h
    · next c e =>
      split at h
      · next e2 =>
        obtain ⟨t', c⟩ := c
        obtain ⟨e3, e4⟩ := e2
        dsimp only at e3
        subst e3
        split at h
        · next v e5 => cases h; exact ⟨a, q, c, v, rfl, e, e4, e5, rfl⟩
        · cases h
      · cases h
    · cases h
  · cases h
/-- an object's field written: its type is ty -/
def amFSet (ci k : Nat) (ty : FieldType) (hp : amH) : List Value → Option (List Value × amH)
  | v :: .ref a :: r => match hp[a]? with
    | some c => if c.1 = ci ∧ ci < 32 ∧ k < c.2.length ∧ narrow ty v = v ∧ fits ty v = true then some (r, hp.set a (ci, c.2.set k v)) else none
    | none => none
  | _ => none
theorem amFSet_s {ci k : Nat} {ty : FieldType} {hp : amH} {st : List Value} {r : List Value × amH} (h : amFSet ci k ty hp st = some r) : ∃ v a q c, st = v :: .ref a :: q ∧ hp[a]? = some (ci, c) ∧ ci < 32 ∧ k < c.length ∧ narrow ty v = v ∧ fits ty v = true ∧ r = (q, hp.set a (ci, c.set k v)) := by
  unfold amFSet at h
  split at h
  · next v a q =>
    split at h
    · next c e =>
      split at h
      · next e2 =>
        obtain ⟨t', c⟩ := c
        obtain ⟨e3, e4, e5, e6, e7⟩ := e2
        dsimp only at e3
        subst e3
        cases h; exact ⟨v, a, q, c, rfl, e, e4, e5, e6, e7, rfl⟩
      · cases h
    · cases h
  · cases h
def amLen (hp : amH) : List Value → Option (List Value)
  | .ref a :: r => match hp[a]? with
    | some c => if 32 ≤ c.1 ∧ c.1 ≤ 35 then some (.int (Int32.ofNat c.2.length) :: r) else none
    | none => none
  | _ => none
theorem amLen_s {hp : amH} {st r : List Value} (h : amLen hp st = some r) : ∃ a q t c, st = .ref a :: q ∧ hp[a]? = some (t, c) ∧ 32 ≤ t ∧ t ≤ 35 ∧ r = .int (Int32.ofNat c.length) :: q := by
  unfold amLen at h
  split at h
  · next a q =>
    split at h
    · next c e =>
      split at h
      · next e2 => cases h; exact ⟨a, q, c.1, c.2, rfl, e, e2.1, e2.2, rfl⟩
      · cases h
    · cases h
  · cases h
/-- the script read -/
def amSc (sc : Option (List Int32)) : List Value → Option (List Value)
  | .int i :: .ref a :: r => match sc with
    | some l => if a = amS ∧ amIn i l.length = true then some (.int (l.getD i.toNatClampNeg 0) :: r) else none
    | none => none
  | _ => none
theorem amSc_s {sc : Option (List Int32)} {st r : List Value} (h : amSc sc st = some r) : ∃ i q l, sc = some l ∧ st = .int i :: .ref amS :: q ∧ vp_in i l.length ∧ r = .int (l.getD i.toNatClampNeg 0) :: q := by
  unfold amSc at h
  split at h
  · next i a q =>
    split at h
    · next l =>
      split at h
      · next e =>
        obtain ⟨e1, e2⟩ := e
        subst e1
        cases h; exact ⟨i, q, l, rfl, rfl, amIn_s e2, rfl⟩
      · cases h
    · cases h
  · cases h
def amScLen (sc : Option (List Int32)) : List Value → Option (List Value)
  | .ref a :: r => match sc with
    | some l => if a = amS then some (.int (Int32.ofNat l.length) :: r) else none
    | none => none
  | _ => none
theorem amScLen_s {sc : Option (List Int32)} {st r : List Value} (h : amScLen sc st = some r) : ∃ q l, sc = some l ∧ st = .ref amS :: q ∧ r = .int (Int32.ofNat l.length) :: q := by
  unfold amScLen at h
  split at h
  · next a q =>
    split at h
    · next l =>
      split at h
      · next e =>
        subst e
        cases h; exact ⟨q, l, rfl, rfl, rfl⟩
      · cases h
    · cases h
  · cases h
/-- the types of the fields, by class and place -/
def amFty (ci k : Nat) : FieldType := match vwCl[ci]? with
  | some r => (parseFieldDescriptor (r.2.1 k).2.2.1).getD .int
  | none => .int
def amOff (x dflt lo hi : Int) (offs : Array Int) : Option Int := if x < lo ∨ hi < x then some dflt else offs[(x - lo).toNat]?
def amTbl (pc : Nat) (dflt lo hi : Int) (offs : Array Int) : List Value → Option (Nat × List Value)
  | .int x :: r => match amOff x.toInt dflt lo hi offs with
    | some o => if 0 ≤ (pc : Int) + o then some (((pc : Int) + o).toNat, r) else none
    | none => none
  | _ => none
def amIsSn (hp : amH) : Value → Bool
  | .ref k => (match hp[k]? with
    | some c => decide (c.1 = 6)
    | none => false)
  | _ => false
abbrev amR : Type := Nat × amL × List Value × amH
/-- one instruction that neither calls nor makes nor ends; a, b: what it is linked to; nL: how many locals -/
def amStep (sc : Option (List Int32)) (nL : Nat) (i : Instr) (a b : Nat) (pc : Nat) (ls : amL) (st : List Value) (hp : amH) : Option amR :=
  match i with
  | .iconst n => some (pc + 1, ls, .int (Int32.ofInt n) :: st, hp)
  | .bipush n => some (pc + 2, ls, .int (Int8.ofInt n).toInt32 :: st, hp)
  | .sipush n => some (pc + 3, ls, .int (Int16.ofInt n).toInt32 :: st, hp)
  | .lconst n => some (pc + 1, ls, .long (Int64.ofNat (n : Nat)) :: st, hp)
  | .fconst n => if n = 0 then some (pc + 1, ls, .float FP.fconst0 :: st, hp) else none
  | .dconst n => if n = 0 then some (pc + 1, ls, .double FP.dconst0 :: st, hp) else none
  | .ldc _ => if b = 0 then some (pc + 2, ls, .int (Int32.ofNat a) :: st, hp) else some (pc + 2, ls, .ref (amK + a) :: st, hp)
  | .ldc_w _ => if b = 0 then some (pc + 3, ls, .int (Int32.ofNat a) :: st, hp) else some (pc + 3, ls, .ref (amK + a) :: st, hp)
  | .ldc2_w _ => some (pc + 3, ls, .long (Int64.ofNat a) :: st, hp)
  | .iload k => (amLd amIsI ls k st).map (fun s => (pc + 2, ls, s, hp))
  | .iload_n k => (amLd amIsI ls k st).map (fun s => (pc + 1, ls, s, hp))
  | .lload k => (amLd amIsJ ls k st).map (fun s => (pc + 2, ls, s, hp))
  | .lload_n k => (amLd amIsJ ls k st).map (fun s => (pc + 1, ls, s, hp))
  | .dload k => (amLd amIsD ls k st).map (fun s => (pc + 2, ls, s, hp))
  | .dload_n k => (amLd amIsD ls k st).map (fun s => (pc + 1, ls, s, hp))
  | .aload k => (amLd amIsA ls k st).map (fun s => (pc + 2, ls, s, hp))
  | .aload_n k => (amLd amIsA ls k st).map (fun s => (pc + 1, ls, s, hp))
  | .istore k => (amSt1 amIsI nL ls k st).map (fun q => (pc + 2, q.1, q.2, hp))
  | .istore_n k => (amSt1 amIsI nL ls k st).map (fun q => (pc + 1, q.1, q.2, hp))
  | .lstore k => (amSt2 amIsJ nL ls k st).map (fun q => (pc + 2, q.1, q.2, hp))
  | .lstore_n k => (amSt2 amIsJ nL ls k st).map (fun q => (pc + 1, q.1, q.2, hp))
  | .dstore k => (amSt2 amIsD nL ls k st).map (fun q => (pc + 2, q.1, q.2, hp))
  | .astore k => (amSt1 amIsA nL ls k st).map (fun q => (pc + 2, q.1, q.2, hp))
  | .astore_n k => (amSt1 amIsA nL ls k st).map (fun q => (pc + 1, q.1, q.2, hp))
  | .iinc k n => (amInc nL ls k n).map (fun q => (pc + 3, q, st, hp))
  | .dup => match st with
    | v :: r => if v.category = 1 then some (pc + 1, ls, v :: v :: r, hp) else none
    | [] => none
  | .dup2 => match st with
    | v :: w :: r => if v.category = 1 ∧ w.category = 1 then some (pc + 1, ls, v :: w :: v :: w :: r, hp) else none
    | _ => none
  | .pop => match st with
    | v :: r => if v.category = 1 then some (pc + 1, ls, r, hp) else none
    | [] => none
  | .iadd => (amII (fun x y => x + y) st).map (fun s => (pc + 1, ls, s, hp))
  | .isub => (amII (fun x y => x - y) st).map (fun s => (pc + 1, ls, s, hp))
  | .imul => (amII (fun x y => x * y) st).map (fun s => (pc + 1, ls, s, hp))
  | .iand => (amII (fun x y => x &&& y) st).map (fun s => (pc + 1, ls, s, hp))
  | .ior => (amII (fun x y => x ||| y) st).map (fun s => (pc + 1, ls, s, hp))
  | .ixor => (amII (fun x y => x ^^^ y) st).map (fun s => (pc + 1, ls, s, hp))
  | .ishl => (amII (fun x y => x <<< (y &&& 31)) st).map (fun s => (pc + 1, ls, s, hp))
  | .ishr => (amII (fun x y => x >>> (y &&& 31)) st).map (fun s => (pc + 1, ls, s, hp))
  | .iushr => (amII (fun x y => (x.toUInt32 >>> (y.toUInt32 &&& Int32.toUInt32 31)).toInt32) st).map (fun s => (pc + 1, ls, s, hp))
  | .idiv => (amDiv (fun x y => x / y) st).map (fun s => (pc + 1, ls, s, hp))
  | .irem => (amDiv (fun x y => x - x / y * y) st).map (fun s => (pc + 1, ls, s, hp))
  | .ineg => (amI (fun x => .int (-x)) st).map (fun s => (pc + 1, ls, s, hp))
  | .i2b => (amI (fun x => .int x.toInt8.toInt32) st).map (fun s => (pc + 1, ls, s, hp))
  | .i2l => (amI (fun x => .long x.toInt64) st).map (fun s => (pc + 1, ls, s, hp))
  | .i2f => (amI (fun x => .float (FP.i2f x)) st).map (fun s => (pc + 1, ls, s, hp))
  | .i2d => (amI (fun x => .double (FP.i2d x)) st).map (fun s => (pc + 1, ls, s, hp))
  | .l2i => (amJ (fun x => .int x.toInt32) st).map (fun s => (pc + 1, ls, s, hp))
  | .lneg => (amJ (fun x => .long (-x)) st).map (fun s => (pc + 1, ls, s, hp))
  | .ladd => (amLL (fun x y => .long (x + y)) st).map (fun s => (pc + 1, ls, s, hp))
  | .lsub => (amLL (fun x y => .long (x - y)) st).map (fun s => (pc + 1, ls, s, hp))
  | .land => (amLL (fun x y => .long (x &&& y)) st).map (fun s => (pc + 1, ls, s, hp))
  | .lor => (amLL (fun x y => .long (x ||| y)) st).map (fun s => (pc + 1, ls, s, hp))
  | .lcmp => (amLL (fun x y => .int (lg_cmp x y)) st).map (fun s => (pc + 1, ls, s, hp))
  | .lshl => (amLI (fun x y => x <<< (y.toInt64 &&& 63)) st).map (fun s => (pc + 1, ls, s, hp))
  | .lshr => (amLI (fun x y => x >>> (y.toInt64 &&& 63)) st).map (fun s => (pc + 1, ls, s, hp))
  | .lushr => (amLI (fun x y => (x.toUInt64 >>> (y.toInt64.toUInt64 &&& Int64.toUInt64 63)).toInt64) st).map (fun s => (pc + 1, ls, s, hp))
  | .fdiv => match st with
    | .float y :: .float x :: r => if FP.fdiv x y &&& 0x7fffffff ≤ 0x7f800000 then some (pc + 1, ls, .float (FP.fdiv x y) :: r, hp) else none
    | _ => none
  | .ddiv => match st with
    | .double y :: .double x :: r => if FP.ddiv x y &&& 0x7fffffffffffffff ≤ 0x7ff0000000000000 then some (pc + 1, ls, .double (FP.ddiv x y) :: r, hp) else none
    | _ => none
  | .f2d => match st with
    | .float x :: r => if FP.f2d x &&& 0x7fffffffffffffff ≤ 0x7ff0000000000000 then some (pc + 1, ls, .double (FP.f2d x) :: r, hp) else none
    | _ => none
  | .dcmp op => match st with
    | .double y :: .double x :: r => some (pc + 1, ls, .int (Op.cmpValue (FP.dcmp x y) op) :: r, hp)
    | _ => none
  | .goto _ => some (a, ls, st, hp)
  | .ifCond c _ => (amIf (amIfP c) a (pc + 3) st).map (fun q => (q.1, ls, q.2, hp))
  | .if_icmp c _ => (amCmp (amCmpP c) a (pc + 3) st).map (fun q => (q.1, ls, q.2, hp))
  | .ifnull _ => match st with
    | .ref _ :: r => some (pc + 3, ls, r, hp)
    | .null :: r => some (a, ls, r, hp)
    | _ => none
  | .ifnonnull _ => match st with
    | .ref _ :: r => some (a, ls, r, hp)
    | .null :: r => some (pc + 3, ls, r, hp)
    | _ => none
  | .tableswitch d lo hi offs => (amTbl pc d lo hi offs st).map (fun q => (q.1, ls, q.2, hp))
  | .getfield _ => (amFGet a b hp st).map (fun s => (pc + 3, ls, s, hp))
  | .putfield _ => (amFSet a b (amFty a b) hp st).map (fun q => (pc + 3, ls, q.1, q.2))
  | .iaload => match amSc sc st with
    | some s => some (pc + 1, ls, s, hp)
    | none => (amALd 32 amIsI hp st).map (fun s => (pc + 1, ls, s, hp))
  | .laload => (amALd 33 amIsJ hp st).map (fun s => (pc + 1, ls, s, hp))
  | .baload => (amALd 34 amIsI hp st).map (fun s => (pc + 1, ls, s, hp))
  | .aaload => (amALd 35 amIsA hp st).map (fun s => (pc + 1, ls, s, hp))
  | .iastore => (amASt 32 amIsI id hp st).map (fun q => (pc + 1, ls, q.1, q.2))
  | .lastore => (amASt 33 amIsJ id hp st).map (fun q => (pc + 1, ls, q.1, q.2))
  | .bastore => (amASt 34 amIsI amNarB hp st).map (fun q => (pc + 1, ls, q.1, q.2))
  | .aastore => (amASt 35 (amIsSn hp) id hp st).map (fun q => (pc + 1, ls, q.1, q.2))
  | .arraylength => match amScLen sc st with
    | some s => some (pc + 1, ls, s, hp)
    | none => (amLen hp st).map (fun s => (pc + 1, ls, s, hp))
  | _ => none
end
/-! ##### 03.steps ##### -/
section
/-! ===== the abstract machine's steps are the machine's ===== -/
/-- the text constants: class, place, text -/
def amStr : List (String × Nat × String) := [("TripleTrains$SetupText", 41, "points"), ("TripleTrains$SetupText", 60, "develop"), ("TripleTrains$SetupText", 62, "triple"), ("TripleTrains", 143, "no such number"), ("TripleTrains", 424, "no such triple"), ("TripleTrains", 151, "no such index"), ("TripleTrains", 420, "no such point"), ("TripleTrains", 422, "the same point twice"), ("TripleTrains", 189, "a negative index"), ("TripleTrains", 204, "a pair is covered"), ("TripleTrains", 219, "a pair would be covered twice"), ("TripleTrains", 426, "no such quadrilateral"), ("TripleTrains", 264, "not 1 to 20 times"), ("TripleTrains", 428, "no such cycle"), ("TripleTrains", 302, "no such trade"), ("TripleTrains", 430, "the system is not complete"), ("TripleTrains", 370, "other bits than those of points"), ("TripleTrains", 396, "the triple is in the system"), ("TripleTrains", 415, "no state is saved"), ("TripleTrainsModel", 245, "points"), ("TripleTrainsModel", 250, "triple"), ("TripleTrainsModel", 256, "develop")]
/-- an instruction's length; 0: any -/
def amSz : Instr → Nat
  | .bipush _ => 2
  | .sipush _ => 3
  | .ldc _ => 2
  | .ldc_w _ => 3
  | .ldc2_w _ => 3
  | .iload _ => 2
  | .lload _ => 2
  | .dload _ => 2
  | .aload _ => 2
  | .istore _ => 2
  | .lstore _ => 2
  | .dstore _ => 2
  | .astore _ => 2
  | .iinc _ _ => 3
  | .goto _ => 3
  | .ifCond _ _ => 3
  | .if_icmp _ _ => 3
  | .ifnull _ => 3
  | .ifnonnull _ => 3
  | .tableswitch _ _ _ _ => 0
  | .getfield _ => 3
  | .putfield _ => 3
  | .new _ => 3
  | .newarray _ => 2
  | .anewarray _ => 3
  | .invokevirtual _ => 3
  | .invokestatic _ => 3
  | .invokespecial _ => 3
  | _ => 1
/-- what an instruction is linked to, by the words -/
def amLk (Ts : List Jvm.Cond) (own : String) (ini : Bool) (pc : Nat) (i : Instr) (a b : Nat) : Prop :=
  match i with
  | .ldc k => (b = 0 → Jvm.Cond.constant own k (Int32.ofNat a) ∈ Ts) ∧ (b ≠ 0 → ∃ tx, amStr[a]? = some (own, k, tx))
  | .ldc_w k => (b = 0 → Jvm.Cond.constant own k (Int32.ofNat a) ∈ Ts) ∧ (b ≠ 0 → ∃ tx, amStr[a]? = some (own, k, tx))
  | .ldc2_w k => Jvm.Cond.constantLong own k (Int64.ofNat a) ∈ Ts
  | .goto o => (pc : Int) + o = (a : Int)
  | .ifCond _ o => (pc : Int) + o = (a : Int)
  | .if_icmp _ o => (pc : Int) + o = (a : Int)
  | .ifnull o => (pc : Int) + o = (a : Int)
  | .ifnonnull o => (pc : Int) + o = (a : Int)
  | .getfield k => ∃ r, vwCl[a]? = some r ∧ b < r.2.2 ∧ Jvm.Cond.fieldLink own k (r.2.1 b).1 (r.2.1 b).2.1 (r.2.1 b).2.2.1 ∈ Ts
  | .putfield k => ∃ r, vwCl[a]? = some r ∧ b < r.2.2 ∧ Jvm.Cond.fieldLink own k (r.2.1 b).1 (r.2.1 b).2.1 (r.2.1 b).2.2.1 ∈ Ts ∧ ((r.2.1 b).2.2.2 = true → ini = true ∧ (r.2.1 b).1 = own)
  | _ => True
theorem amE_obj {dA : Nat → ClassId} {ad : Nat → Nat} {ci : Nat} {fs : List Value} (h : ci < 32) : amE dA ad (ci, fs) = .inr (ci, fs.map (amV ad)) := by
  unfold amE
  dsimp only
  rw [if_neg (by omega), if_neg (by omega), if_neg (by omega), if_neg (by omega)]
theorem amIn_lt {i : Int32} {n : Nat} (h : vp_in i n) : i.toNatClampNeg < n := Nat.not_le.mp fun q => h (Or.inr q)
theorem am_set_i {c : List Value} {k : Nat} {v : Value} {x : Int32} (hk : k < c.length) (hv : amInt v = x) : (fun j => amInt ((c.set k v).getD j .null)) = upd (fun j => amInt (c.getD j .null)) k x := by
  funext j
  by_cases hj : j = k
  · subst hj
    simp [upd, hk, hv]
  · simp [upd, hj, List.getElem?_set, Ne.symm hj]
theorem am_set_l {c : List Value} {k : Nat} {v : Value} {x : Int64} (hk : k < c.length) (hv : amLong v = x) : (fun j => amLong ((c.set k v).getD j .null)) = vp_updL (fun j => amLong (c.getD j .null)) k x := by
  funext j
  by_cases hj : j = k
  · subst hj
    simp [vp_updL, hk, hv]
  · simp [vp_updL, hj, List.getElem?_set, Ne.symm hj]
theorem am_set_q {ad : Nat → Nat} {c : List Value} {k : Nat} {v : Value} {x : Nat} (hk : k < c.length) (hv : amRef ad v = some x) : (fun j => amRef ad ((c.set k v).getD j .null)) = va_up (fun j => amRef ad (c.getD j .null)) k (some x) := by
  funext j
  by_cases hj : j = k
  · subst hj
    simp [va_up, hk, hv]
  · simp [va_up, hj, List.getElem?_set, Ne.symm hj]
theorem amIsI_v {ad : Nat → Nat} {v : Value} (h : amIsI v = true) : amV ad v = .int (amInt v) := by cases v <;> first | rfl | cases h
theorem amIsJ_v {ad : Nat → Nat} {v : Value} (h : amIsJ v = true) : amV ad v = .long (amLong v) := by cases v <;> first | rfl | cases h
theorem amIsA_v {ad : Nat → Nat} {v : Value} (h : amIsA v = true) : amV ad v = va_rf (amRef ad v) := by cases v <;> first | rfl | cases h
/-- the classes' tables -/
def amClOk : Prop := ∀ (ci : Nat) (r : vw_C), vwCl[ci]? = some r → (∀ k, k < r.2.2 → parseFieldDescriptor (r.2.1 k).2.2.1 = some (amFty ci k)) ∧ (∀ a, a < r.2.2 → ∀ b, b < r.2.2 → a ≠ b → (r.2.1 a).2.1 ≠ (r.2.1 b).2.1)
section AMS
variable {p : Program} {l : Launch} {e : Env} {R : Room} {s : State} {m : MethodId} {args : Array Value} {below : List Frame} {meth : Method} {c : Code} {H : Heap} {locs : List Loc} {cells slots : Nat} {Q : State → Prop}
variable {cc : ByteArray} {D : va_G} {dA : Nat → ClassId} {A : Nat → Prop} {H0 : Heap}
theorem am_ldcwS (hexec : p.tables.exec = Jvm.exec) (hb : c.code = cc) {own tx : String} {index q pc : Nat} {ls : Array Slot} {rest : List Value} (hown : s.vm.findClass own = some m.cls) (hZ : vk_R own index tx q s) (hdg : decode cc pc = .ok (.ldc_w index, 3))
    (k : W p l e R s m args below meth c H locs cells slots Q (F0 m (pc + 3) ls (.ref q :: rest))) : W p l e R s m args below meth c H locs cells slots Q (F0 m pc ls rest) := by
  intro T hT X
  obtain ⟨t, a1, b1⟩ := k T hT X
  exact ⟨t, X.ldcStringW hexec hown (text := tx) (a := q) hZ.1 hZ.2 (g := F0 m pc ls rest) rfl (by rw [hb]; exact hdg) t a1, b1⟩
set_option maxHeartbeats 4000000 in
set_option maxRecDepth 20000 in
theorem amStep_ok (hx : p.tables.exec = Jvm.exec) (hb : c.code = cc) {Ts : List Jvm.Cond} (hts : ∀ w ∈ Ts, w.before args s = true) {own : String} (hown : s.vm.findClass own = some m.cls) (hK : va_K D vwCl (amTys dA) s) (hus : ∀ (ci : Nat) (r : vw_C), vwCl[ci]? = some r → ∀ w ∈ u_ws r.1 r.2.1 r.2.2, w ∈ Ts) (hcl : amClOk) {ini : Bool} (hini : ini = true → meth.name = "<init>") {sA : Nat → Nat} (hstr : ∀ (k : Nat) (r : String × Nat × String), amStr[k]? = some r → vk_R r.1 r.2.1 r.2.2 (sA k) s) {sc : Option (List Int32)} {ad : Nat → Nat} (hsA : ∀ k, ad (amK + k) = sA k) (hsc : ∀ l9, sc = some l9 → va_X (ad amS) l9.length (fun j => l9.getD j 0) s H0 ∧ ad amS < H0.size ∧ ¬ A (ad amS))
    {nL pc a b : Nat} {i : Instr} (hd : ∃ n, decode cc pc = .ok (i, n) ∧ (amSz i = 0 ∨ n = amSz i)) (hlk : amLk Ts own ini pc i a b) {ls : amL} {st : List Value} {hp : amH} {r : amR} (h : amStep sc nL i a b pc ls st hp = some r) {lsA : Array Slot} (hl : lv_has lsA nL (amLs ad ls)) (hP : va_P D vwCl (amW dA ad hp) H) (hD : va_D A (amW dA ad hp)) (hS : va_S A H0 H locs)
    (kk : ∀ (H1 : Heap) (locs1 : List Loc) (lsA1 : Array Slot), va_P D vwCl (amW dA ad r.2.2.2) H1 → va_D A (amW dA ad r.2.2.2) → va_S A H0 H1 locs1 → lv_has lsA1 nL (amLs ad r.2.1) → W p l e R s m args below meth c H1 locs1 cells slots Q (F0 m r.1 lsA1 (r.2.2.1.map (amV ad)))) :
    W p l e R s m args below meth c H locs cells slots Q (F0 m pc lsA (st.map (amV ad))) := by
  obtain ⟨n, hd, hn⟩ := hd
  cases i
  all_goals first
    | exact absurd (show (none : Option amR) = some r from h) (by intro z; cases z)
    | skip
  case iconst z =>
    obtain rfl : n = 1 := by rcases hn with hn | hn <;> first | exact hn | cases hn
    cases h
    exact lv_iconst hx hb hd rfl (kk H locs lsA hP hD hS hl)
  case bipush z =>
    obtain rfl : n = 2 := by rcases hn with hn | hn <;> first | exact hn | cases hn
    cases h
    exact lv_bipush hx hb hd rfl (kk H locs lsA hP hD hS hl)
  case sipush z =>
    obtain rfl : n = 3 := by rcases hn with hn | hn <;> first | exact hn | cases hn
    cases h
    exact lv_sipush hx hb hd rfl (kk H locs lsA hP hD hS hl)
  case lconst z =>
    obtain rfl : n = 1 := by rcases hn with hn | hn <;> first | exact hn | cases hn
    cases h
    exact lv_lconst hx hb hd rfl (kk H locs lsA hP hD hS hl)
  case fconst z =>
    obtain rfl : n = 1 := by rcases hn with hn | hn <;> first | exact hn | cases hn
    simp only [amStep] at h
    split at h
    · next e => subst e; cases h; exact lv_fconst0 hx hb hd (kk H locs lsA hP hD hS hl)
    · cases h
  case dconst z =>
    obtain rfl : n = 1 := by rcases hn with hn | hn <;> first | exact hn | cases hn
    simp only [amStep] at h
    split at h
    · next e => subst e; cases h; exact lv_dconst0 hx hb hd (kk H locs lsA hP hD hS hl)
    · cases h
  case ldc z =>
    obtain rfl : n = 2 := by rcases hn with hn | hn <;> first | exact hn | cases hn
    simp only [amStep] at h
    split at h
    · next e => cases h; exact lv_ldc hx hb hown (hts _ (hlk.1 e)) hd (kk H locs lsA hP hD hS hl)
    · next e =>
      cases h
      obtain ⟨tx, ht⟩ := hlk.2 e
      have k0 := kk H locs lsA hP hD hS hl
      have e2 : amV ad (.ref (amK + a)) = .ref (sA a) := by show Value.ref (ad (amK + a)) = _; rw [hsA]
      have hs1 := hstr _ _ ht
      dsimp only at hs1
      exact va_ldcS hx hb hown hs1 hd (W.eq (congrArg (fun v => F0 m (pc + 2) lsA (v :: st.map (amV ad))) e2.symm) k0)
  case ldc_w z =>
    obtain rfl : n = 3 := by rcases hn with hn | hn <;> first | exact hn | cases hn
    simp only [amStep] at h
    split at h
    · next e => cases h; exact lv_ldcw hx hb hown (hts _ (hlk.1 e)) hd (kk H locs lsA hP hD hS hl)
    · next e =>
      cases h
      obtain ⟨tx, ht⟩ := hlk.2 e
      have k0 := kk H locs lsA hP hD hS hl
      have e2 : amV ad (.ref (amK + a)) = .ref (sA a) := by show Value.ref (ad (amK + a)) = _; rw [hsA]
      have hs1 := hstr _ _ ht
      dsimp only at hs1
      exact am_ldcwS hx hb hown hs1 hd (W.eq (congrArg (fun v => F0 m (pc + 3) lsA (v :: st.map (amV ad))) e2.symm) k0)
  case ldc2_w z =>
    obtain rfl : n = 3 := by rcases hn with hn | hn <;> first | exact hn | cases hn
    cases h
    exact lv_ldc2 hx hb hown (hts _ hlk) hd (kk H locs lsA hP hD hS hl)
  case iload k =>
    obtain rfl : n = 2 := by rcases hn with hn | hn <;> first | exact hn | cases hn
    simp only [amStep] at h
    obtain ⟨s1, h1, rfl⟩ := Option.map_eq_some_iff.mp h
    obtain ⟨v, hv, hp1, rfl⟩ := amLd_s h1
    obtain ⟨x, rfl⟩ := amIsI_s hp1
    exact lv_iload hx hb hd (amGet_has hl hv) (kk H locs lsA hP hD hS hl)
  case iload_n k =>
    obtain rfl : n = 1 := by rcases hn with hn | hn <;> first | exact hn | cases hn
    simp only [amStep] at h
    obtain ⟨s1, h1, rfl⟩ := Option.map_eq_some_iff.mp h
    obtain ⟨v, hv, hp1, rfl⟩ := amLd_s h1
    obtain ⟨x, rfl⟩ := amIsI_s hp1
    exact lv_iload_n hx hb hd rfl (amGet_has hl hv) (kk H locs lsA hP hD hS hl)
  case lload k =>
    obtain rfl : n = 2 := by rcases hn with hn | hn <;> first | exact hn | cases hn
    simp only [amStep] at h
    obtain ⟨s1, h1, rfl⟩ := Option.map_eq_some_iff.mp h
    obtain ⟨v, hv, hp1, rfl⟩ := amLd_s h1
    obtain ⟨x, rfl⟩ := amIsJ_s hp1
    exact lv_lload hx hb hd (amGet_has hl hv) (kk H locs lsA hP hD hS hl)
  case lload_n k =>
    obtain rfl : n = 1 := by rcases hn with hn | hn <;> first | exact hn | cases hn
    simp only [amStep] at h
    obtain ⟨s1, h1, rfl⟩ := Option.map_eq_some_iff.mp h
    obtain ⟨v, hv, hp1, rfl⟩ := amLd_s h1
    obtain ⟨x, rfl⟩ := amIsJ_s hp1
    exact lv_lload_n hx hb hd rfl (amGet_has hl hv) (kk H locs lsA hP hD hS hl)
  case dload k =>
    obtain rfl : n = 2 := by rcases hn with hn | hn <;> first | exact hn | cases hn
    simp only [amStep] at h
    obtain ⟨s1, h1, rfl⟩ := Option.map_eq_some_iff.mp h
    obtain ⟨v, hv, hp1, rfl⟩ := amLd_s h1
    obtain ⟨x, rfl⟩ := amIsD_s hp1
    exact lv_dload hx hb hd (amGet_has hl hv) (kk H locs lsA hP hD hS hl)
  case dload_n k =>
    obtain rfl : n = 1 := by rcases hn with hn | hn <;> first | exact hn | cases hn
    simp only [amStep] at h
    obtain ⟨s1, h1, rfl⟩ := Option.map_eq_some_iff.mp h
    obtain ⟨v, hv, hp1, rfl⟩ := amLd_s h1
    obtain ⟨x, rfl⟩ := amIsD_s hp1
    exact lv_dload_n hx hb hd rfl (amGet_has hl hv) (kk H locs lsA hP hD hS hl)
  case aload k =>
    obtain rfl : n = 2 := by rcases hn with hn | hn <;> first | exact hn | cases hn
    simp only [amStep] at h
    obtain ⟨s1, h1, rfl⟩ := Option.map_eq_some_iff.mp h
    obtain ⟨v, hv, hp1, rfl⟩ := amLd_s h1
    rcases amIsA_s hp1 with rfl | ⟨x, rfl⟩
    · exact lv_aloadN hx hb hd (amGet_has hl hv) (kk H locs lsA hP hD hS hl)
    · exact lv_aload hx hb hd (amGet_has hl hv) (kk H locs lsA hP hD hS hl)
  case aload_n k =>
    obtain rfl : n = 1 := by rcases hn with hn | hn <;> first | exact hn | cases hn
    simp only [amStep] at h
    obtain ⟨s1, h1, rfl⟩ := Option.map_eq_some_iff.mp h
    obtain ⟨v, hv, hp1, rfl⟩ := amLd_s h1
    rcases amIsA_s hp1 with rfl | ⟨x, rfl⟩
    · exact lv_aload_nN hx hb hd rfl (amGet_has hl hv) (kk H locs lsA hP hD hS hl)
    · exact lv_aload_n hx hb hd rfl (amGet_has hl hv) (kk H locs lsA hP hD hS hl)
  case istore k =>
    obtain rfl : n = 2 := by rcases hn with hn | hn <;> first | exact hn | cases hn
    simp only [amStep] at h
    obtain ⟨s1, h1, rfl⟩ := Option.map_eq_some_iff.mp h
    obtain ⟨v, q, rfl, hp1, hk, rfl⟩ := amSt1_s h1
    obtain ⟨x, rfl⟩ := amIsI_s hp1
    exact lv_istore hx hb hd hl hk (amSet1_ls ad ls k (.int x)) (fun ls1 hl1 => kk H locs ls1 hP hD hS hl1)
  case istore_n k =>
    obtain rfl : n = 1 := by rcases hn with hn | hn <;> first | exact hn | cases hn
    simp only [amStep] at h
    obtain ⟨s1, h1, rfl⟩ := Option.map_eq_some_iff.mp h
    obtain ⟨v, q, rfl, hp1, hk, rfl⟩ := amSt1_s h1
    obtain ⟨x, rfl⟩ := amIsI_s hp1
    exact lv_istore_n hx hb hd rfl hl hk (amSet1_ls ad ls (k : Nat) (.int x)) (fun ls1 hl1 => kk H locs ls1 hP hD hS hl1)
  case lstore k =>
    obtain rfl : n = 2 := by rcases hn with hn | hn <;> first | exact hn | cases hn
    simp only [amStep] at h
    obtain ⟨s1, h1, rfl⟩ := Option.map_eq_some_iff.mp h
    obtain ⟨v, q, rfl, hp1, hk, rfl⟩ := amSt2_s h1
    obtain ⟨x, rfl⟩ := amIsJ_s hp1
    exact lv_lstore hx hb hd hl hk (amSet2_ls ad ls k (.long x)) (fun ls1 hl1 => kk H locs ls1 hP hD hS hl1)
  case lstore_n k =>
    obtain rfl : n = 1 := by rcases hn with hn | hn <;> first | exact hn | cases hn
    simp only [amStep] at h
    obtain ⟨s1, h1, rfl⟩ := Option.map_eq_some_iff.mp h
    obtain ⟨v, q, rfl, hp1, hk, rfl⟩ := amSt2_s h1
    obtain ⟨x, rfl⟩ := amIsJ_s hp1
    exact lv_lstore_n hx hb hd rfl hl hk (amSet2_ls ad ls (k : Nat) (.long x)) (fun ls1 hl1 => kk H locs ls1 hP hD hS hl1)
  case dstore k =>
    obtain rfl : n = 2 := by rcases hn with hn | hn <;> first | exact hn | cases hn
    simp only [amStep] at h
    obtain ⟨s1, h1, rfl⟩ := Option.map_eq_some_iff.mp h
    obtain ⟨v, q, rfl, hp1, hk, rfl⟩ := amSt2_s h1
    obtain ⟨x, rfl⟩ := amIsD_s hp1
    exact lv_dstore hx hb hd hl hk (amSet2_ls ad ls k (.double x)) (fun ls1 hl1 => kk H locs ls1 hP hD hS hl1)
  case astore k =>
    obtain rfl : n = 2 := by rcases hn with hn | hn <;> first | exact hn | cases hn
    simp only [amStep] at h
    obtain ⟨s1, h1, rfl⟩ := Option.map_eq_some_iff.mp h
    obtain ⟨v, q, rfl, hp1, hk, rfl⟩ := amSt1_s h1
    rcases amIsA_s hp1 with rfl | ⟨x, rfl⟩
    · exact lv_astoreN hx hb hd hl hk (amSet1_ls ad ls k .null) (fun ls1 hl1 => kk H locs ls1 hP hD hS hl1)
    · exact lv_astore hx hb hd hl hk (amSet1_ls ad ls k (.ref x)) (fun ls1 hl1 => kk H locs ls1 hP hD hS hl1)
  case astore_n k =>
    obtain rfl : n = 1 := by rcases hn with hn | hn <;> first | exact hn | cases hn
    simp only [amStep] at h
    obtain ⟨s1, h1, rfl⟩ := Option.map_eq_some_iff.mp h
    obtain ⟨v, q, rfl, hp1, hk, rfl⟩ := amSt1_s h1
    rcases amIsA_s hp1 with rfl | ⟨x, rfl⟩
    · exact lv_astore_nN hx hb hd rfl hl hk (amSet1_ls ad ls (k : Nat) .null) (fun ls1 hl1 => kk H locs ls1 hP hD hS hl1)
    · exact lv_astore_n hx hb hd rfl hl hk (amSet1_ls ad ls (k : Nat) (.ref x)) (fun ls1 hl1 => kk H locs ls1 hP hD hS hl1)
  case iinc k z =>
    obtain rfl : n = 3 := by rcases hn with hn | hn <;> first | exact hn | cases hn
    simp only [amStep] at h
    obtain ⟨s1, h1, rfl⟩ := Option.map_eq_some_iff.mp h
    obtain ⟨x, hv, hk, rfl⟩ := amInc_s h1
    obtain ⟨j, hj⟩ := List.getElem?_of_mem (amLs_mem (ad := ad) (amGet_mem hv))
    exact lv_iinc hx hb hd hl hj rfl hk (amSet1_ls ad ls k (.int (x + Int32.ofInt z))) (fun ls1 hl1 => kk H locs ls1 hP hD hS hl1)
  case dup =>
    obtain rfl : n = 1 := by rcases hn with hn | hn <;> first | exact hn | cases hn
    simp only [amStep] at h
    split at h
    · split at h
      · next v q e => cases h; exact lv_dup hx hb hd (by rw [amV_cat]; exact e) (kk H locs lsA hP hD hS hl)
      · cases h
    · cases h
  case dup2 =>
    obtain rfl : n = 1 := by rcases hn with hn | hn <;> first | exact hn | cases hn
    simp only [amStep] at h
    split at h
    · split at h
      · next v w q e => cases h; exact lv_dup2_11 hx hb hd (by rw [amV_cat]; exact e.1) (by rw [amV_cat]; exact e.2) (kk H locs lsA hP hD hS hl)
      · cases h
    · cases h
  case pop =>
    obtain rfl : n = 1 := by rcases hn with hn | hn <;> first | exact hn | cases hn
    simp only [amStep] at h
    split at h
    · split at h
      · next v q e => cases h; exact lv_pop hx hb hd (by rw [amV_cat]; exact e) (kk H locs lsA hP hD hS hl)
      · cases h
    · cases h
  case iadd =>
    obtain rfl : n = 1 := by rcases hn with hn | hn <;> first | exact hn | cases hn
    simp only [amStep] at h
    obtain ⟨s1, h1, rfl⟩ := Option.map_eq_some_iff.mp h
    obtain ⟨x, y, q, rfl, rfl⟩ := amII_s h1
    exact lv_iadd hx hb hd (kk H locs lsA hP hD hS hl)
  case isub =>
    obtain rfl : n = 1 := by rcases hn with hn | hn <;> first | exact hn | cases hn
    simp only [amStep] at h
    obtain ⟨s1, h1, rfl⟩ := Option.map_eq_some_iff.mp h
    obtain ⟨x, y, q, rfl, rfl⟩ := amII_s h1
    exact lv_isub hx hb hd (kk H locs lsA hP hD hS hl)
  case imul =>
    obtain rfl : n = 1 := by rcases hn with hn | hn <;> first | exact hn | cases hn
    simp only [amStep] at h
    obtain ⟨s1, h1, rfl⟩ := Option.map_eq_some_iff.mp h
    obtain ⟨x, y, q, rfl, rfl⟩ := amII_s h1
    exact lv_imul hx hb hd (kk H locs lsA hP hD hS hl)
  case iand =>
    obtain rfl : n = 1 := by rcases hn with hn | hn <;> first | exact hn | cases hn
    simp only [amStep] at h
    obtain ⟨s1, h1, rfl⟩ := Option.map_eq_some_iff.mp h
    obtain ⟨x, y, q, rfl, rfl⟩ := amII_s h1
    exact lv_iand hx hb hd (kk H locs lsA hP hD hS hl)
  case ior =>
    obtain rfl : n = 1 := by rcases hn with hn | hn <;> first | exact hn | cases hn
    simp only [amStep] at h
    obtain ⟨s1, h1, rfl⟩ := Option.map_eq_some_iff.mp h
    obtain ⟨x, y, q, rfl, rfl⟩ := amII_s h1
    exact lv_ior hx hb hd (kk H locs lsA hP hD hS hl)
  case ixor =>
    obtain rfl : n = 1 := by rcases hn with hn | hn <;> first | exact hn | cases hn
    simp only [amStep] at h
    obtain ⟨s1, h1, rfl⟩ := Option.map_eq_some_iff.mp h
    obtain ⟨x, y, q, rfl, rfl⟩ := amII_s h1
    exact lv_ixor hx hb hd (kk H locs lsA hP hD hS hl)
  case ishl =>
    obtain rfl : n = 1 := by rcases hn with hn | hn <;> first | exact hn | cases hn
    simp only [amStep] at h
    obtain ⟨s1, h1, rfl⟩ := Option.map_eq_some_iff.mp h
    obtain ⟨x, y, q, rfl, rfl⟩ := amII_s h1
    exact lv_ishl hx hb hd (kk H locs lsA hP hD hS hl)
  case ishr =>
    obtain rfl : n = 1 := by rcases hn with hn | hn <;> first | exact hn | cases hn
    simp only [amStep] at h
    obtain ⟨s1, h1, rfl⟩ := Option.map_eq_some_iff.mp h
    obtain ⟨x, y, q, rfl, rfl⟩ := amII_s h1
    exact lv_ishr hx hb hd (kk H locs lsA hP hD hS hl)
  case iushr =>
    obtain rfl : n = 1 := by rcases hn with hn | hn <;> first | exact hn | cases hn
    simp only [amStep] at h
    obtain ⟨s1, h1, rfl⟩ := Option.map_eq_some_iff.mp h
    obtain ⟨x, y, q, rfl, rfl⟩ := amII_s h1
    exact lv_iushr hx hb hd rfl (kk H locs lsA hP hD hS hl)
  case idiv =>
    obtain rfl : n = 1 := by rcases hn with hn | hn <;> first | exact hn | cases hn
    simp only [amStep] at h
    obtain ⟨s1, h1, rfl⟩ := Option.map_eq_some_iff.mp h
    obtain ⟨x, y, q, rfl, hne, rfl⟩ := amDiv_s h1
    exact lv_idiv hx hb hd hne (kk H locs lsA hP hD hS hl)
  case irem =>
    obtain rfl : n = 1 := by rcases hn with hn | hn <;> first | exact hn | cases hn
    simp only [amStep] at h
    obtain ⟨s1, h1, rfl⟩ := Option.map_eq_some_iff.mp h
    obtain ⟨x, y, q, rfl, hne, rfl⟩ := amDiv_s h1
    exact lv_irem hx hb hd hne (kk H locs lsA hP hD hS hl)
  case ineg =>
    obtain rfl : n = 1 := by rcases hn with hn | hn <;> first | exact hn | cases hn
    simp only [amStep] at h
    obtain ⟨s1, h1, rfl⟩ := Option.map_eq_some_iff.mp h
    obtain ⟨x, q, rfl, rfl⟩ := amI_s h1
    exact lv_ineg hx hb hd (kk H locs lsA hP hD hS hl)
  case i2b =>
    obtain rfl : n = 1 := by rcases hn with hn | hn <;> first | exact hn | cases hn
    simp only [amStep] at h
    obtain ⟨s1, h1, rfl⟩ := Option.map_eq_some_iff.mp h
    obtain ⟨x, q, rfl, rfl⟩ := amI_s h1
    exact lv_i2b hx hb hd rfl (kk H locs lsA hP hD hS hl)
  case i2l =>
    obtain rfl : n = 1 := by rcases hn with hn | hn <;> first | exact hn | cases hn
    simp only [amStep] at h
    obtain ⟨s1, h1, rfl⟩ := Option.map_eq_some_iff.mp h
    obtain ⟨x, q, rfl, rfl⟩ := amI_s h1
    exact lv_i2l hx hb hd rfl (kk H locs lsA hP hD hS hl)
  case i2f =>
    obtain rfl : n = 1 := by rcases hn with hn | hn <;> first | exact hn | cases hn
    simp only [amStep] at h
    obtain ⟨s1, h1, rfl⟩ := Option.map_eq_some_iff.mp h
    obtain ⟨x, q, rfl, rfl⟩ := amI_s h1
    exact lv_i2f hx hb hd (kk H locs lsA hP hD hS hl)
  case i2d =>
    obtain rfl : n = 1 := by rcases hn with hn | hn <;> first | exact hn | cases hn
    simp only [amStep] at h
    obtain ⟨s1, h1, rfl⟩ := Option.map_eq_some_iff.mp h
    obtain ⟨x, q, rfl, rfl⟩ := amI_s h1
    exact lv_i2d hx hb hd (kk H locs lsA hP hD hS hl)
  case l2i =>
    obtain rfl : n = 1 := by rcases hn with hn | hn <;> first | exact hn | cases hn
    simp only [amStep] at h
    obtain ⟨s1, h1, rfl⟩ := Option.map_eq_some_iff.mp h
    obtain ⟨x, q, rfl, rfl⟩ := amJ_s h1
    exact lv_l2i hx hb hd rfl (kk H locs lsA hP hD hS hl)
  case lneg =>
    obtain rfl : n = 1 := by rcases hn with hn | hn <;> first | exact hn | cases hn
    simp only [amStep] at h
    obtain ⟨s1, h1, rfl⟩ := Option.map_eq_some_iff.mp h
    obtain ⟨x, q, rfl, rfl⟩ := amJ_s h1
    exact lv_lneg hx hb hd (kk H locs lsA hP hD hS hl)
  case ladd =>
    obtain rfl : n = 1 := by rcases hn with hn | hn <;> first | exact hn | cases hn
    simp only [amStep] at h
    obtain ⟨s1, h1, rfl⟩ := Option.map_eq_some_iff.mp h
    obtain ⟨x, y, q, rfl, rfl⟩ := amLL_s h1
    exact lv_ladd hx hb hd (kk H locs lsA hP hD hS hl)
  case lsub =>
    obtain rfl : n = 1 := by rcases hn with hn | hn <;> first | exact hn | cases hn
    simp only [amStep] at h
    obtain ⟨s1, h1, rfl⟩ := Option.map_eq_some_iff.mp h
    obtain ⟨x, y, q, rfl, rfl⟩ := amLL_s h1
    exact lv_lsub hx hb hd (kk H locs lsA hP hD hS hl)
  case land =>
    obtain rfl : n = 1 := by rcases hn with hn | hn <;> first | exact hn | cases hn
    simp only [amStep] at h
    obtain ⟨s1, h1, rfl⟩ := Option.map_eq_some_iff.mp h
    obtain ⟨x, y, q, rfl, rfl⟩ := amLL_s h1
    exact lv_land hx hb hd (kk H locs lsA hP hD hS hl)
  case lor =>
    obtain rfl : n = 1 := by rcases hn with hn | hn <;> first | exact hn | cases hn
    simp only [amStep] at h
    obtain ⟨s1, h1, rfl⟩ := Option.map_eq_some_iff.mp h
    obtain ⟨x, y, q, rfl, rfl⟩ := amLL_s h1
    exact lv_lor hx hb hd (kk H locs lsA hP hD hS hl)
  case lcmp =>
    obtain rfl : n = 1 := by rcases hn with hn | hn <;> first | exact hn | cases hn
    simp only [amStep] at h
    obtain ⟨s1, h1, rfl⟩ := Option.map_eq_some_iff.mp h
    obtain ⟨x, y, q, rfl, rfl⟩ := amLL_s h1
    exact W.lcmp hx hb hd (kk H locs lsA hP hD hS hl)
  case lshl =>
    obtain rfl : n = 1 := by rcases hn with hn | hn <;> first | exact hn | cases hn
    simp only [amStep] at h
    obtain ⟨s1, h1, rfl⟩ := Option.map_eq_some_iff.mp h
    obtain ⟨x, y, q, rfl, rfl⟩ := amLI_s h1
    exact lv_lshl hx hb hd rfl (kk H locs lsA hP hD hS hl)
  case lshr =>
    obtain rfl : n = 1 := by rcases hn with hn | hn <;> first | exact hn | cases hn
    simp only [amStep] at h
    obtain ⟨s1, h1, rfl⟩ := Option.map_eq_some_iff.mp h
    obtain ⟨x, y, q, rfl, rfl⟩ := amLI_s h1
    exact lv_lshr hx hb hd rfl (kk H locs lsA hP hD hS hl)
  case lushr =>
    obtain rfl : n = 1 := by rcases hn with hn | hn <;> first | exact hn | cases hn
    simp only [amStep] at h
    obtain ⟨s1, h1, rfl⟩ := Option.map_eq_some_iff.mp h
    obtain ⟨x, y, q, rfl, rfl⟩ := amLI_s h1
    exact lv_lushr hx hb hd rfl (kk H locs lsA hP hD hS hl)
  case fdiv =>
    obtain rfl : n = 1 := by rcases hn with hn | hn <;> first | exact hn | cases hn
    simp only [amStep] at h
    split at h
    · split at h
      · next e => cases h; exact lv_fdiv hx hb hd e (kk H locs lsA hP hD hS hl)
      · cases h
    · cases h
  case ddiv =>
    obtain rfl : n = 1 := by rcases hn with hn | hn <;> first | exact hn | cases hn
    simp only [amStep] at h
    split at h
    · split at h
      · next e => cases h; exact lv_ddiv hx hb hd e (kk H locs lsA hP hD hS hl)
      · cases h
    · cases h
  case f2d =>
    obtain rfl : n = 1 := by rcases hn with hn | hn <;> first | exact hn | cases hn
    simp only [amStep] at h
    split at h
    · split at h
      · next e => cases h; exact lv_f2d hx hb hd e (kk H locs lsA hP hD hS hl)
      · cases h
    · cases h
  case dcmp op =>
    obtain rfl : n = 1 := by rcases hn with hn | hn <;> first | exact hn | cases hn
    simp only [amStep] at h
    split at h
    · cases h; exact lv_dcmp hx hb hd (kk H locs lsA hP hD hS hl)
    · cases h
  case goto z =>
    obtain rfl : n = 3 := by rcases hn with hn | hn <;> first | exact hn | cases hn
    cases h
    exact lv_goto hx hb hd hlk (kk H locs lsA hP hD hS hl)
  case ifCond cd z =>
    obtain rfl : n = 3 := by rcases hn with hn | hn <;> first | exact hn | cases hn
    simp only [amStep] at h
    obtain ⟨s1, h1, rfl⟩ := Option.map_eq_some_iff.mp h
    obtain ⟨x, q, rfl, rfl⟩ := amIf_s h1
    have k0 := kk H locs lsA hP hD hS hl
    dsimp only at k0
    cases cd
    case eq => exact lv_if_eq hx hb hd hlk (fun e2 => by rw [show amIfP .eq x = true from decide_eq_true e2, if_pos rfl] at k0; exact k0) (fun e2 => by rw [show amIfP .eq x = false from decide_eq_false e2, if_neg (by decide)] at k0; exact k0)
    case ne => exact lv_if_ne hx hb hd hlk (fun e2 => by rw [show amIfP .ne x = true from decide_eq_true e2, if_pos rfl] at k0; exact k0) (fun e2 => by rw [show amIfP .ne x = false from decide_eq_false (fun z => z e2), if_neg (by decide)] at k0; exact k0)
    case lt => exact lv_if_lt hx hb hd hlk (fun e2 => by rw [show amIfP .lt x = true from decide_eq_true e2, if_pos rfl] at k0; exact k0) (fun e2 => by rw [show amIfP .lt x = false from decide_eq_false e2, if_neg (by decide)] at k0; exact k0)
    case ge => exact lv_if_ge hx hb hd hlk (fun e2 => by rw [show amIfP .ge x = true from decide_eq_true e2, if_pos rfl] at k0; exact k0) (fun e2 => by rw [show amIfP .ge x = false from decide_eq_false e2, if_neg (by decide)] at k0; exact k0)
    case gt => exact lv_if_gt hx hb hd hlk (fun e2 => by rw [show amIfP .gt x = true from decide_eq_true e2, if_pos rfl] at k0; exact k0) (fun e2 => by rw [show amIfP .gt x = false from decide_eq_false e2, if_neg (by decide)] at k0; exact k0)
    case le => exact lv_if_le hx hb hd hlk (fun e2 => by rw [show amIfP .le x = true from decide_eq_true e2, if_pos rfl] at k0; exact k0) (fun e2 => by rw [show amIfP .le x = false from decide_eq_false e2, if_neg (by decide)] at k0; exact k0)
  case if_icmp cd z =>
    obtain rfl : n = 3 := by rcases hn with hn | hn <;> first | exact hn | cases hn
    simp only [amStep] at h
    obtain ⟨s1, h1, rfl⟩ := Option.map_eq_some_iff.mp h
    obtain ⟨x, y, q, rfl, rfl⟩ := amCmp_s h1
    have k0 := kk H locs lsA hP hD hS hl
    dsimp only at k0
    cases cd
    case eq => exact lv_icmp_eq hx hb hd hlk (fun e2 => by rw [show amCmpP .eq x y = true from decide_eq_true e2, if_pos rfl] at k0; exact k0) (fun e2 => by rw [show amCmpP .eq x y = false from decide_eq_false e2, if_neg (by decide)] at k0; exact k0)
    case ne => exact lv_icmp_ne hx hb hd hlk (fun e2 => by rw [show amCmpP .ne x y = true from decide_eq_true e2, if_pos rfl] at k0; exact k0) (fun e2 => by rw [show amCmpP .ne x y = false from decide_eq_false (fun z => z e2), if_neg (by decide)] at k0; exact k0)
    case lt => exact lv_icmp_lt hx hb hd hlk (fun e2 => by rw [show amCmpP .lt x y = true from decide_eq_true e2, if_pos rfl] at k0; exact k0) (fun e2 => by rw [show amCmpP .lt x y = false from decide_eq_false e2, if_neg (by decide)] at k0; exact k0)
    case ge => exact lv_icmp_ge hx hb hd hlk (fun e2 => by rw [show amCmpP .ge x y = true from decide_eq_true e2, if_pos rfl] at k0; exact k0) (fun e2 => by rw [show amCmpP .ge x y = false from decide_eq_false e2, if_neg (by decide)] at k0; exact k0)
    case gt => exact lv_icmp_gt hx hb hd hlk (fun e2 => by rw [show amCmpP .gt x y = true from decide_eq_true e2, if_pos rfl] at k0; exact k0) (fun e2 => by rw [show amCmpP .gt x y = false from decide_eq_false e2, if_neg (by decide)] at k0; exact k0)
    case le => exact lv_icmp_le hx hb hd hlk (fun e2 => by rw [show amCmpP .le x y = true from decide_eq_true e2, if_pos rfl] at k0; exact k0) (fun e2 => by rw [show amCmpP .le x y = false from decide_eq_false e2, if_neg (by decide)] at k0; exact k0)
  case ifnull z =>
    obtain rfl : n = 3 := by rcases hn with hn | hn <;> first | exact hn | cases hn
    simp only [amStep] at h
    split at h
    · cases h; exact lv_ifnull hx hb hd (kk H locs lsA hP hD hS hl)
    · cases h; exact lv_ifnullN hx hb hd hlk (kk H locs lsA hP hD hS hl)
    · cases h
  case ifnonnull z =>
    obtain rfl : n = 3 := by rcases hn with hn | hn <;> first | exact hn | cases hn
    simp only [amStep] at h
    split at h
    · cases h; exact lv_ifnonnull hx hb hd hlk (kk H locs lsA hP hD hS hl)
    · cases h; exact lv_ifnonnullN hx hb hd (kk H locs lsA hP hD hS hl)
    · cases h
  case tableswitch d lo hi offs =>
    simp only [amStep] at h
    obtain ⟨s1, h1, rfl⟩ := Option.map_eq_some_iff.mp h
    unfold amTbl at h1
    split at h1
    · next x q =>
      split at h1
      · next o ho =>
        split at h1
        · next e =>
          cases h1
          by_cases hr : x.toInt < lo ∨ hi < x.toInt
          · unfold amOff at ho
            rw [if_pos hr] at ho
            cases ho
            exact lv_tableOut hx hb hd hr (Int.toNat_of_nonneg e).symm (kk H locs lsA hP hD hS hl)
          · unfold amOff at ho
            rw [if_neg hr] at ho
            exact lv_tableIn hx hb hd (fun z => hr (Or.inl z)) (fun z => hr (Or.inr z)) ho (Int.toNat_of_nonneg e).symm (kk H locs lsA hP hD hS hl)
        · cases h1
      · cases h1
    · cases h1
  case getfield k =>
    obtain rfl : n = 3 := by rcases hn with hn | hn <;> first | exact hn | cases hn
    simp only [amStep] at h
    obtain ⟨s1, h1, rfl⟩ := Option.map_eq_some_iff.mp h
    obtain ⟨o, q, fs, v, rfl, hc, hlt, hv, rfl⟩ := amFGet_s h1
    obtain ⟨⟨C, T, N⟩, hr, hkN, hw⟩ := hlk
    have hg := amW_get (dA := dA) (ad := ad) hc
    rw [amE_obj hlt] at hg
    exact va_get (D := D) hx hb hts (hus _ _ hr) hown hK hP o hg hr b hkN (hts _ hw) (fun _ h => h) (v := amV ad v) (by simp [hv]) hd (kk H locs lsA hP hD hS hl)
  case putfield k =>
    obtain rfl : n = 3 := by rcases hn with hn | hn <;> first | exact hn | cases hn
    simp only [amStep] at h
    obtain ⟨s1, h1, rfl⟩ := Option.map_eq_some_iff.mp h
    obtain ⟨v, o, q, fs, rfl, hc, hlt, hlen, hnar, hfit, rfl⟩ := amFSet_s h1
    obtain ⟨⟨C, T, N⟩, hr, hkN, hw, hfin⟩ := hlk
    obtain ⟨hty, hnm⟩ := hcl _ _ hr
    have hg := amW_get (dA := dA) (ad := ad) hc
    rw [amE_obj hlt] at hg
    have hset : (amW dA ad hp).set o (ad o, .inr (a, (fs.map (amV ad)).set b (amV ad v))) = amW dA ad (hp.set o (a, fs.set b v)) := by
      rw [← amW_set, amE_obj hlt, List.map_set]
    have kk2 : ∀ (H1 : Heap) (locs1 : List Loc), va_P D vwCl ((amW dA ad hp).set o (ad o, .inr (a, (fs.map (amV ad)).set b (amV ad v)))) H1 → va_D A ((amW dA ad hp).set o (ad o, .inr (a, (fs.map (amV ad)).set b (amV ad v)))) → va_S A H0 H1 locs1 → W p l e R s m args below meth c H1 locs1 cells slots Q (F0 m (pc + 3) lsA (q.map (amV ad))) := fun H1 locs1 h2 h3 h4 => kk H1 locs1 lsA (hset ▸ h2) (hset ▸ h3) h4 hl
    by_cases hf : (T b).2.2.2 = true
    · obtain ⟨hi, ho⟩ := hfin hf
      exact va_putF (D := D) hx hb hts (hus _ _ hr) (amFty a) hty hnm hown hK hP hD hS o hg hr b hkN (hts _ hw) (fun _ h => h) hf (hini hi) ho (hty b hkN) (amV_narrow hnar) (amV_fits hfit) (by rw [List.length_map]; exact hlen) hd kk2
    · exact va_put (D := D) hx hb hts (hus _ _ hr) (amFty a) hty hnm hown hK hP hD hS o hg hr b hkN (hts _ hw) (fun _ h => h) (Bool.eq_false_iff.mpr hf) (hty b hkN) (amV_narrow hnar) (amV_fits hfit) (by rw [List.length_map]; exact hlen) hd kk2
  case iaload =>
    obtain rfl : n = 1 := by rcases hn with hn | hn <;> first | exact hn | cases hn
    simp only [amStep] at h
    split at h
    · next s1 hs1 =>
      cases h
      obtain ⟨i, q, l9, h0, rfl, hin, rfl⟩ := amSc_s hs1
      obtain ⟨hX, hbl, hbA⟩ := hsc l9 h0
      exact va_sld hx hb hX hbl hbA hS hin hd (kk H locs lsA hP hD hS hl)
    · obtain ⟨s1, h1, rfl⟩ := Option.map_eq_some_iff.mp h
      obtain ⟨i, o, q, cs, rfl, hc, hin, hpv, rfl⟩ := amALd_s h1
      have hg := amW_get (dA := dA) (ad := ad) hc
      have k0 := kk H locs lsA hP hD hS hl
      exact va_iald (D := D) hx hb hK hP o 0 hg rfl hin hd (W.eq (congrArg (fun v => F0 m (pc + 1) lsA (v :: q.map (amV ad))) (amIsI_v (ad := ad) hpv).symm) k0)
  case laload =>
    obtain rfl : n = 1 := by rcases hn with hn | hn <;> first | exact hn | cases hn
    simp only [amStep] at h
    obtain ⟨s1, h1, rfl⟩ := Option.map_eq_some_iff.mp h
    obtain ⟨i, o, q, cs, rfl, hc, hin, hpv, rfl⟩ := amALd_s h1
    have hg := amW_get (dA := dA) (ad := ad) hc
    have k0 := kk H locs lsA hP hD hS hl
    exact va_lald (D := D) hx hb hK hP o 1 hg rfl hin hd (W.eq (congrArg (fun v => F0 m (pc + 1) lsA (v :: q.map (amV ad))) (amIsJ_v (ad := ad) hpv).symm) k0)
  case baload =>
    obtain rfl : n = 1 := by rcases hn with hn | hn <;> first | exact hn | cases hn
    simp only [amStep] at h
    obtain ⟨s1, h1, rfl⟩ := Option.map_eq_some_iff.mp h
    obtain ⟨i, o, q, cs, rfl, hc, hin, hpv, rfl⟩ := amALd_s h1
    have hg := amW_get (dA := dA) (ad := ad) hc
    have k0 := kk H locs lsA hP hD hS hl
    exact va_bald (D := D) hx hb hK hP o 2 hg rfl hin hd (W.eq (congrArg (fun v => F0 m (pc + 1) lsA (v :: q.map (amV ad))) (amIsI_v (ad := ad) hpv).symm) k0)
  case aaload =>
    obtain rfl : n = 1 := by rcases hn with hn | hn <;> first | exact hn | cases hn
    simp only [amStep] at h
    obtain ⟨s1, h1, rfl⟩ := Option.map_eq_some_iff.mp h
    obtain ⟨i, o, q, cs, rfl, hc, hin, hpv, rfl⟩ := amALd_s h1
    have hg := amW_get (dA := dA) (ad := ad) hc
    have k0 := kk H locs lsA hP hD hS hl
    exact va_aldq (D := D) hx hb hK hP o 3 hg rfl hin hd (W.eq (congrArg (fun v => F0 m (pc + 1) lsA (v :: q.map (amV ad))) (amIsA_v (ad := ad) hpv).symm) k0)
  case iastore =>
    obtain rfl : n = 1 := by rcases hn with hn | hn <;> first | exact hn | cases hn
    simp only [amStep] at h
    obtain ⟨s1, h1, rfl⟩ := Option.map_eq_some_iff.mp h
    obtain ⟨v, i, o, q, cs, rfl, hc, hin, hpv, rfl⟩ := amASt_s h1
    obtain ⟨x, rfl⟩ := amIsI_s hpv
    have hg := amW_get (dA := dA) (ad := ad) hc
    have hset : (amW dA ad hp).set o (ad o, .inl (dA 0, cs.length, .inl (upd (fun j => amInt (cs.getD j .null)) i.toNatClampNeg x))) = amW dA ad (hp.set o (32, cs.set i.toNatClampNeg (.int x))) := by
      rw [← amW_set]
      show _ = (amW dA ad hp).set o (ad o, .inl (dA 0, (cs.set i.toNatClampNeg _).length, _))
      rw [am_set_i (amIn_lt hin) rfl, List.length_set]
      rfl
    exact va_iast (D := D) hx hb hK hP hD hS o 0 hg rfl hin hd (fun H1 locs1 h2 h3 h4 => kk H1 locs1 lsA (hset ▸ h2) (hset ▸ h3) h4 hl)
  case lastore =>
    obtain rfl : n = 1 := by rcases hn with hn | hn <;> first | exact hn | cases hn
    simp only [amStep] at h
    obtain ⟨s1, h1, rfl⟩ := Option.map_eq_some_iff.mp h
    obtain ⟨v, i, o, q, cs, rfl, hc, hin, hpv, rfl⟩ := amASt_s h1
    obtain ⟨x, rfl⟩ := amIsJ_s hpv
    have hg := amW_get (dA := dA) (ad := ad) hc
    have hset : (amW dA ad hp).set o (ad o, .inl (dA 1, cs.length, .inr (.inl (vp_updL (fun j => amLong (cs.getD j .null)) i.toNatClampNeg x)))) = amW dA ad (hp.set o (33, cs.set i.toNatClampNeg (.long x))) := by
      rw [← amW_set]
      show _ = (amW dA ad hp).set o (ad o, .inl (dA 1, (cs.set i.toNatClampNeg _).length, _))
      rw [am_set_l (amIn_lt hin) rfl, List.length_set]
      rfl
    exact va_last (D := D) hx hb hK hP hD hS o 1 hg rfl hin hd (fun H1 locs1 h2 h3 h4 => kk H1 locs1 lsA (hset ▸ h2) (hset ▸ h3) h4 hl)
  case bastore =>
    obtain rfl : n = 1 := by rcases hn with hn | hn <;> first | exact hn | cases hn
    simp only [amStep] at h
    obtain ⟨s1, h1, rfl⟩ := Option.map_eq_some_iff.mp h
    obtain ⟨v, i, o, q, cs, rfl, hc, hin, hpv, rfl⟩ := amASt_s h1
    obtain ⟨x, rfl⟩ := amIsI_s hpv
    have hg := amW_get (dA := dA) (ad := ad) hc
    have hset : (amW dA ad hp).set o (ad o, .inl (dA 2, cs.length, .inl (upd (fun j => amInt (cs.getD j .null)) i.toNatClampNeg (vp_nar .byte x)))) = amW dA ad (hp.set o (34, cs.set i.toNatClampNeg (.int (vp_nar .byte x)))) := by
      rw [← amW_set]
      show _ = (amW dA ad hp).set o (ad o, .inl (dA 2, (cs.set i.toNatClampNeg _).length, _))
      rw [am_set_i (amIn_lt hin) rfl, List.length_set]
      rfl
    exact va_bast (D := D) hx hb hK hP hD hS o 2 hg rfl hin hd (fun H1 locs1 h2 h3 h4 => kk H1 locs1 lsA (hset ▸ h2) (hset ▸ h3) h4 hl)
  case aastore =>
    obtain rfl : n = 1 := by rcases hn with hn | hn <;> first | exact hn | cases hn
    simp only [amStep] at h
    obtain ⟨s1, h1, rfl⟩ := Option.map_eq_some_iff.mp h
    obtain ⟨v, i, o, q, cs, rfl, hc, hin, hpv, rfl⟩ := amASt_s h1
    unfold amIsSn at hpv
    split at hpv
    · next k =>
      split at hpv
      · next cv hcv =>
        obtain ⟨t, fs⟩ := cv
        have ht : t = 6 := of_decide_eq_true hpv
        subst ht
        have hg := amW_get (dA := dA) (ad := ad) hc
        have hgv := amW_get (dA := dA) (ad := ad) hcv
        rw [amE_obj (by decide)] at hgv
        have hset : (amW dA ad hp).set o (ad o, .inl (dA 3, cs.length, .inr (.inr (.inr (.inr (va_up (fun j => amRef ad (cs.getD j .null)) i.toNatClampNeg (some (ad k)))))))) = amW dA ad (hp.set o (35, cs.set i.toNatClampNeg (.ref k))) := by
          rw [← amW_set]
          show _ = (amW dA ad hp).set o (ad o, .inl (dA 3, (cs.set i.toNatClampNeg _).length, _))
          rw [am_set_q (amIn_lt hin) rfl, List.length_set]
        exact va_astq (D := D) (r := (RX7, TX7, 4)) hx hb hK hP hD hS o 3 k 6 hg rfl hgv rfl hin hd (fun H1 locs1 h2 h3 h4 => kk H1 locs1 lsA (hset ▸ h2) (hset ▸ h3) h4 hl)
      · cases hpv
    · cases hpv
  case arraylength =>
    obtain rfl : n = 1 := by rcases hn with hn | hn <;> first | exact hn | cases hn
    simp only [amStep] at h
    split at h
    · next s1 hs1 =>
      cases h
      obtain ⟨q, l9, h0, rfl, rfl⟩ := amScLen_s hs1
      obtain ⟨hX, hbl, hbA⟩ := hsc l9 h0
      exact va_slen hx hb hX hbl hbA hS hd (kk H locs lsA hP hD hS hl)
    · obtain ⟨s1, h1, rfl⟩ := Option.map_eq_some_iff.mp h
      obtain ⟨o, q, t, cs, rfl, hc, ht1, ht2, rfl⟩ := amLen_s h1
      have hg := amW_get (dA := dA) (ad := ad) hc
      rcases (show t = 32 ∨ t = 33 ∨ t = 34 ∨ t = 35 by omega) with rfl | rfl | rfl | rfl
      · exact va_alen (D := D) hx hb hK hP o 0 hg rfl rfl hd (kk H locs lsA hP hD hS hl)
      · exact va_alen (D := D) hx hb hK hP o 1 hg rfl rfl hd (kk H locs lsA hP hD hS hl)
      · exact va_alen (D := D) hx hb hK hP o 2 hg rfl rfl hd (kk H locs lsA hP hD hS hl)
      · exact va_alen (D := D) hx hb hK hP o 3 hg rfl rfl hd (kk H locs lsA hP hD hS hl)
end AMS
end
/-! ##### 04.run ##### -/
section
/-! ===== the abstract machine: making, calling, ending; whole runs ===== -/
abbrev amIn1 : Type := Instr × Nat × Nat
abbrev amP : Type := List (Nat × amIn1)
/-- a method: its code; how many locals; how many arguments, the receiver with them; is it a constructor; what it answers; its handlers (from, to, at, exception, local, behind); its class's place -/
abbrev amM : Type := amP × Nat × Nat × Bool × Option FieldType × List (Nat × Nat × Nat × Nat × Nat × Nat) × Nat
/-- what comes of an instruction: on (with cells and slots made), an answer, a throw, a call (method, arguments, the rest of the stack) -/
abbrev amAct : Type := (amR × Nat × Nat) ⊕ Option Value ⊕ Nat ⊕ (Nat × List Value × List Value)
abbrev amRes : Type := (Option Value ⊕ Nat) × amH × Nat × Nat
def amOk (n : Nat) : Value → Bool
  | .ref i => decide (i < n) || decide (amK ≤ i)
  | _ => true
def amOkL (n : Nat) (ls : amL) : Bool := ls.all (fun q => amOk n q.2)
def amOkS (n : Nat) (st : List Value) : Bool := st.all (amOk n)
def amOkH (n : Nat) (hp : amH) : Bool := hp.all (fun c => (decide (32 ≤ c.1) && decide (c.1 ≤ 34)) || c.2.all (amOk n))
def amDef (ci : Nat) : List Value := match vwCl[ci]? with
  | some r => (List.range r.2.2).map (fun k => defaultValue (amFty ci k))
  | none => []
def amKind : ArrayType → Option (Nat × Value)
  | .int => some (32, .int 0)
  | .long => some (33, .long 0)
  | .byte => some (34, .int 0)
  | _ => none
/-- a new cell at the end -/
def amMake (pc : Nat) (ls : amL) (r : List Value) (hp : amH) (c : amC) : Option amAct :=
  if (amOkL hp.length ls && amOkS hp.length r && amOkH hp.length hp && decide (hp.length < amK)) = true then some (.inl ((pc, ls, .ref hp.length :: r, hp ++ [c]), 1, c.2.length)) else none
def amMakeA (pc : Nat) (ls : amL) (hp : amH) (k : Option (Nat × Value)) : List Value → Option amAct
  | .int x :: r => match k with
    | some (t, v) => if ¬ x < 0 ∧ x.toNatClampNeg ≤ 100000 then amMake pc ls r hp (t, List.replicate x.toNatClampNeg v) else none
    | none => none
  | _ => none
def amCopy (pc : Nat) (ls : amL) (hp : amH) : List Value → Option amAct
  | .int n :: .int dp :: .ref a :: .int sp :: .ref a0 :: r => match hp[a0]?, hp[a]? with
    | some c0, some c1 => if c0.1 = 32 ∧ c1.1 = 32 ∧ ¬ sp < 0 ∧ ¬ dp < 0 ∧ ¬ n < 0 ∧ sp.toNatClampNeg + n.toNatClampNeg ≤ c0.2.length ∧ dp.toNatClampNeg + n.toNatClampNeg ≤ c1.2.length ∧ (r.map fun v => v.category).sum ≤ 8 then
        some (.inl ((pc, ls, r, hp.set a (32, c1.2.take dp.toNatClampNeg ++ ((c0.2.drop sp.toNatClampNeg).take n.toNatClampNeg ++ c1.2.drop (dp.toNatClampNeg + n.toNatClampNeg)))), 0, 0)) else none
    | _, _ => none
  | _ => none
def amObj (pc : Nat) (ls : amL) (hp : amH) : List Value → Option amAct
  | .ref _ :: r => if (r.map fun v => v.category).sum ≤ 8 then some (.inl ((pc, ls, r, hp), 0, 0)) else none
  | _ => none
/-- the words whose letters are read: their numbers, their bytes -/
def amSl : List (Nat × List Int32) := [(0, [112, 111, 105, 110, 116, 115]), (1, [100, 101, 118, 101, 108, 111, 112]), (2, [116, 114, 105, 112, 108, 101]), (19, [112, 111, 105, 110, 116, 115]), (20, [116, 114, 105, 112, 108, 101]), (21, [100, 101, 118, 101, 108, 111, 112])]
def amWd (r : Nat) : Option (List Int32) := if amK ≤ r then (amSl.find? (fun q => q.1 == r - amK)).map (fun q => q.2) else none
theorem amWd_s {r : Nat} {l : List Int32} (h : amWd r = some l) : ∃ k, r = amK + k ∧ (k, l) ∈ amSl := by
  unfold amWd at h
  split at h
  · next e =>
    obtain ⟨q, h1, h2⟩ := Option.map_eq_some_iff.mp h
    have h3 := List.find?_some h1
    refine ⟨r - amK, by omega, ?_⟩
    have h4 : q.1 = r - amK := by simpa using h3
    rw [← h4, ← h2]
    exact List.mem_of_find?_eq_some h1
  · cases h
def amLenS (pc : Nat) (ls : amL) (hp : amH) : List Value → Option amAct
  | .ref r :: q => match amWd r with
    | some l => if (q.map fun v => v.category).sum ≤ 8 then some (.inl ((pc, ls, .int (Int32.ofNat l.length) :: q, hp), 0, 0)) else none
    | none => none
  | _ => none
def amChrS (pc : Nat) (ls : amL) (hp : amH) : List Value → Option amAct
  | .int i :: .ref r :: q => match amWd r with
    | some l => if amIn i l.length = true ∧ (q.map fun v => v.category).sum ≤ 8 then some (.inl ((pc, ls, .int (l.getD i.toNatClampNeg 0) :: q, hp), 0, 0)) else none
    | none => none
  | _ => none
theorem amLenS_s {pc : Nat} {ls : amL} {hp : amH} {st : List Value} {x : amAct} (h : amLenS pc ls hp st = some x) : ∃ k l q, (k, l) ∈ amSl ∧ st = .ref (amK + k) :: q ∧ (q.map fun v => v.category).sum ≤ 8 ∧ x = .inl ((pc, ls, .int (Int32.ofNat l.length) :: q, hp), 0, 0) := by
  unfold amLenS at h
  split at h
  · next r q =>
    split at h
    · next l e =>
      obtain ⟨k, rfl, hk⟩ := amWd_s e
      split at h
      · next e2 => cases h; exact ⟨k, l, q, hk, rfl, e2, rfl⟩
      · cases h
    · cases h
  · cases h
theorem amChrS_s {pc : Nat} {ls : amL} {hp : amH} {st : List Value} {x : amAct} (h : amChrS pc ls hp st = some x) : ∃ i k l q, (k, l) ∈ amSl ∧ st = .int i :: .ref (amK + k) :: q ∧ vp_in i l.length ∧ (q.map fun v => v.category).sum ≤ 8 ∧ x = .inl ((pc, ls, .int (l.getD i.toNatClampNeg 0) :: q, hp), 0, 0) := by
  unfold amChrS at h
  split at h
  · next i r q =>
    split at h
    · next l e =>
      obtain ⟨k, rfl, hk⟩ := amWd_s e
      split at h
      · next e2 => cases h; exact ⟨i, k, l, q, hk, rfl, amIn_s e2.1, e2.2, rfl⟩
      · cases h
    · cases h
  · cases h
def amRetV (ret : Option FieldType) (i : Instr) (st : List Value) : Option (Option Value) :=
  match i with
  | .ireturn => match ret, st with
    | some ty, [.int x] => if narrow ty (.int x) = .int x then some (some (.int x)) else none
    | _, _ => none
  | .lreturn => match ret, st with
    | some .long, [.long x] => some (some (.long x))
    | _, _ => none
  | .freturn => match ret, st with
    | some .float, [.float x] => some (some (.float x))
    | _, _ => none
  | .dreturn => match ret, st with
    | some .double, [.double x] => some (some (.double x))
    | _, _ => none
  | .return_ => match ret, st with
    | none, [] => some none
    | _, _ => none
  | _ => none
/-- the receiver: of the class at the place ci (virt), or any cell (a constructor), or none (static) -/
def amRecv (k ci : Nat) (hp : amH) : List Value → Bool
  | .ref o :: _ => if k = 0 then (match hp[o]? with
      | some c => decide (c.1 = ci ∧ ci < 32)
      | none => false) else true
  | _ => decide (k = 1)
/-- k: 0 by the receiver's class, 1 static, 2 a constructor -/
def amCall (G : Nat → Option amM) (k a : Nat) (ls : amL) (st : List Value) (hp : amH) : Option amAct := match G a with
  | some N => if N.2.2.1 ≤ st.length ∧ ((st.take N.2.2.1).map fun v => v.category).sum ≤ N.2.1 ∧ (amOkL hp.length ls && amOkS hp.length (st.drop N.2.2.1) && amRecv k N.2.2.2.2.2.2 hp (st.take N.2.2.1).reverse) = true ∧ ((st.drop N.2.2.1).map fun v => v.category).sum ≤ 8 then
      some (.inr (.inr (.inr (a, (st.take N.2.2.1).reverse, st.drop N.2.2.1)))) else none
  | none => none
def amDo (G : Nat → Option amM) (M : amM) (sc : Option (List Int32)) (i : Instr) (a b : Nat) (pc : Nat) (ls : amL) (st : List Value) (hp : amH) : Option amAct :=
  match i with
  | .new _ => if b = 0 then amMake (pc + 3) ls st hp (a, amDef a) else if (st.map fun v => v.category).sum ≤ 8 ∧ M.2.2.2.2.2.1 = [] then some (.inr (.inr (.inl a))) else none
  | .newarray t => amMakeA (pc + 2) ls hp (amKind t) st
  | .anewarray _ => amMakeA (pc + 3) ls hp (some (35, .null)) st
  | .invokevirtual _ => if b = 7 then amLenS (pc + 3) ls hp st else if b = 8 then amChrS (pc + 3) ls hp st else amCall G 0 a ls st hp
  | .invokestatic _ => if b = 6 then amCopy (pc + 3) ls hp st else amCall G 1 a ls st hp
  | .invokespecial _ => if b = 5 then amObj (pc + 3) ls hp st else amCall G 2 a ls st hp
  | .ireturn => (amRetV M.2.2.2.2.1 .ireturn st).map (fun v => .inr (.inl v))
  | .lreturn => (amRetV M.2.2.2.2.1 .lreturn st).map (fun v => .inr (.inl v))
  | .freturn => (amRetV M.2.2.2.2.1 .freturn st).map (fun v => .inr (.inl v))
  | .dreturn => (amRetV M.2.2.2.2.1 .dreturn st).map (fun v => .inr (.inl v))
  | .return_ => (amRetV M.2.2.2.2.1 .return_ st).map (fun v => .inr (.inl v))
  | j => (amStep sc M.2.1 j a b pc ls st hp).map (fun r => .inl (r, 0, 0))
def amSeek (cs : amP) (pc : Nat) : amP := cs.dropWhile (fun q => q.1 != pc)
def amNext (M : amM) (cs : amP) (pc : Nat) : amP := match cs with
  | q :: _ => if q.1 = pc then cs else amSeek M.1 pc
  | [] => amSeek M.1 pc
def amHand (hs : List (Nat × Nat × Nat × Nat × Nat × Nat)) (pc E : Nat) : Option (Nat × Nat × Nat) := match hs with
  | [] => none
  | h :: r => if h.1 ≤ pc ∧ pc < h.2.1 ∧ h.2.2.2.1 = E then some (h.2.2.1, h.2.2.2.2) else amHand r pc E
def amDrop (ls : amL) (i : Nat) : amL := ls.filter (fun q => !(q.1 == i) && !(q.1 + 1 == i && q.2.category == 2))
/-- the calls that may throw -/
def amMay : Instr → Nat → Bool
  | .invokevirtual _, _ => true
  | .invokestatic _, b => decide (b = 0)
  | _, _ => false
/-- a run: f steps at most, calls d deep at most -/
def amRun (G : Nat → Option amM) (sc : Option (List Int32)) : Nat → Nat → amM → amP → Nat → amL → List Value → amH → Nat → Nat → Option amRes
  | 0, _, _, _, _, _, _, _, _, _ => none
  | _ + 1, _, _, [], _, _, _, _, _, _ => none
  | f + 1, d, M, q :: cs, pc, ls, st, hp, kc, ks =>
    if q.1 = pc then
      match amDo G M sc q.2.1 q.2.2.1 q.2.2.2 pc ls st hp with
      | none => none
      | some (.inl (r, dk, ds)) => amRun G sc f d M (amNext M cs r.1) r.1 r.2.1 r.2.2.1 r.2.2.2 (kc + dk) (ks + ds)
      | some (.inr (.inl v)) => some (.inl v, hp, kc, ks)
      | some (.inr (.inr (.inl E))) => some (.inr E, hp, kc + 1, ks + 6)
      | some (.inr (.inr (.inr (k, av, rest)))) =>
        match d, G k with
        | d' + 1, some N =>
          match amRun G none f d' N N.1 0 (lv_args 0 av) [] hp 0 0 with
          | some (.inl v, hp1, mc, ms) => amRun G sc f (d' + 1) M (amNext M cs (pc + 3)) (pc + 3) ls (v.toList ++ rest) hp1 (kc + mc) (ks + ms)
          | some (.inr E, hp1, mc, ms) =>
            if amMay q.2.1 q.2.2.2 = false then none
            else if M.2.2.2.2.2.1 = [] then some (.inr E, hp1, kc + mc, ks + ms)
            else match amHand M.2.2.2.2.2.1 pc E with
              | some (_, x, to) => amRun G sc f (d' + 1) M (amSeek M.1 to) to (amDrop ls x) [] hp1 (kc + mc) (ks + ms)
              | none => none
          | none => none
        | _, _ => none
    else none
theorem amStep_len {sc : Option (List Int32)} {nL : Nat} {i : Instr} {a b pc : Nat} {ls : amL} {st : List Value} {hp : amH} {r : amR} (h : amStep sc nL i a b pc ls st hp = some r) : r.2.2.2.length = hp.length := by
  cases i
  all_goals first
    | exact absurd (show (none : Option amR) = some r from h) (by intro z; cases z)
    | (cases h; rfl)
    | (simp only [amStep] at h
       obtain ⟨s1, h1, rfl⟩ := Option.map_eq_some_iff.mp h
       first
         | rfl
         | (obtain ⟨v, i, o, q, cs, rfl, hc, hin, hpv, rfl⟩ := amASt_s h1; simp)
         | (obtain ⟨v, o, q, fs, rfl, hc, hlt, hlen, hnar, hfit, rfl⟩ := amFSet_s h1; simp))
    | (simp only [amStep] at h
       repeat' split at h
       all_goals first
         | (cases h; rfl)
         | cases h
         | (obtain ⟨s1, h1, rfl⟩ := Option.map_eq_some_iff.mp h; rfl))
theorem amMake_s {pc : Nat} {ls : amL} {r : List Value} {hp : amH} {c : amC} {x : amAct} (h : amMake pc ls r hp c = some x) : amOkL hp.length ls = true ∧ amOkS hp.length r = true ∧ amOkH hp.length hp = true ∧ hp.length < amK ∧ x = .inl ((pc, ls, .ref hp.length :: r, hp ++ [c]), 1, c.2.length) := by
  unfold amMake at h
  split at h
  · next e =>
    simp only [Bool.and_eq_true, decide_eq_true_eq] at e
    cases h
    exact ⟨e.1.1.1, e.1.1.2, e.1.2, e.2, rfl⟩
  · cases h
theorem amMakeA_s {pc : Nat} {ls : amL} {st : List Value} {hp : amH} {k : Option (Nat × Value)} {x : amAct} (h : amMakeA pc ls hp k st = some x) : ∃ n r t v, st = .int n :: r ∧ k = some (t, v) ∧ ¬ n < 0 ∧ n.toNatClampNeg ≤ 100000 ∧ amMake pc ls r hp (t, List.replicate n.toNatClampNeg v) = some x := by
  unfold amMakeA at h
  split at h
  · next n r =>
    split at h
    · next t v =>
      split at h
      · next e => exact ⟨n, r, t, v, rfl, rfl, e.1, e.2, h⟩
      · cases h
    · cases h
  · cases h
theorem amCopy_s {pc : Nat} {ls : amL} {st : List Value} {hp : amH} {x : amAct} (h : amCopy pc ls hp st = some x) : ∃ n dp a sp a0 r c0 c1, st = .int n :: .int dp :: .ref a :: .int sp :: .ref a0 :: r ∧ hp[a0]? = some (32, c0) ∧ hp[a]? = some (32, c1) ∧ ¬ sp < 0 ∧ ¬ dp < 0 ∧ ¬ n < 0 ∧ sp.toNatClampNeg + n.toNatClampNeg ≤ c0.length ∧ dp.toNatClampNeg + n.toNatClampNeg ≤ c1.length ∧ (r.map fun v => v.category).sum ≤ 8 ∧
    x = .inl ((pc, ls, r, hp.set a (32, c1.take dp.toNatClampNeg ++ ((c0.drop sp.toNatClampNeg).take n.toNatClampNeg ++ c1.drop (dp.toNatClampNeg + n.toNatClampNeg)))), 0, 0) := by
  unfold amCopy at h
  split at h
  · next n dp a sp a0 r =>
    split at h
    · next c0 c1 e0 e1 =>
      split at h
      · next e =>
        obtain ⟨t0, c0⟩ := c0
        obtain ⟨t1, c1⟩ := c1
        obtain ⟨q1, q2, q3, q4, q5, q6, q7, q8⟩ := e
        dsimp only at q1 q2 q6 q7
        subst q1; subst q2
        cases h
        exact ⟨n, dp, a, sp, a0, r, c0, c1, rfl, e0, e1, q3, q4, q5, q6, q7, q8, rfl⟩
      · cases h
    · cases h
  · cases h
theorem amObj_s {pc : Nat} {ls : amL} {st : List Value} {hp : amH} {x : amAct} (h : amObj pc ls hp st = some x) : ∃ a r, st = .ref a :: r ∧ (r.map fun v => v.category).sum ≤ 8 ∧ x = .inl ((pc, ls, r, hp), 0, 0) := by
  unfold amObj at h
  split at h
  · next a r =>
    split at h
    · next e => cases h; exact ⟨a, r, rfl, e, rfl⟩
    · cases h
  · cases h
theorem amCall_s {G : Nat → Option amM} {k a : Nat} {ls : amL} {st : List Value} {hp : amH} {x : amAct} (h : amCall G k a ls st hp = some x) : ∃ N av rest, G a = some N ∧ st = av.reverse ++ rest ∧ av.length = N.2.2.1 ∧ amOkL hp.length ls = true ∧ amOkS hp.length rest = true ∧ amRecv k N.2.2.2.2.2.2 hp av = true ∧ (rest.map fun v => v.category).sum ≤ 8 ∧ (av.map fun v => v.category).sum ≤ N.2.1 ∧ x = .inr (.inr (.inr (a, av, rest))) := by
  unfold amCall at h
  split at h
  · next N e =>
    split at h
    · next q =>
      obtain ⟨q1, q0, q2, q3⟩ := q
      simp only [Bool.and_eq_true] at q2
      cases h
      refine ⟨N, _, _, e, ?_, ?_, q2.1.1, q2.1.2, q2.2, q3, by rw [List.map_reverse, List.sum_reverse]; exact q0, rfl⟩
      · rw [List.reverse_reverse, List.take_append_drop]
      · rw [List.length_reverse, List.length_take]; omega
    · cases h
  · cases h
/-- what goes on leaves the cells in their places -/
theorem amDo_len {G : Nat → Option amM} {M : amM} {sc : Option (List Int32)} {i : Instr} {a b pc : Nat} {ls : amL} {st : List Value} {hp : amH} {r : amR} {dk ds : Nat} (h : amDo G M sc i a b pc ls st hp = some (.inl (r, dk, ds))) : hp.length ≤ r.2.2.2.length := by
  unfold amDo at h
  split at h
  case h_1 => 
    split at h
    · obtain ⟨-, -, -, -, e⟩ := amMake_s h; cases e; simp
    · split at h <;> cases h
  case h_2 => obtain ⟨n, q, t, v, rfl, -, -, -, h⟩ := amMakeA_s h; obtain ⟨-, -, -, -, e⟩ := amMake_s h; cases e; simp
  case h_3 => obtain ⟨n, q, t, v, rfl, -, -, -, h⟩ := amMakeA_s h; obtain ⟨-, -, -, -, e⟩ := amMake_s h; cases e; simp
  case h_4 =>
    split at h
    · obtain ⟨_, _, _, -, rfl, -, e⟩ := amLenS_s h; cases e; simp
    · split at h
      · obtain ⟨_, _, _, _, -, rfl, -, -, e⟩ := amChrS_s h; cases e; simp
      · obtain ⟨N, av, rest, -, -, -, -, -, -, -, -, e⟩ := amCall_s h; cases e
  case h_5 =>
    split at h
    · obtain ⟨n, dp, o, sp, a0, q, c0, c1, rfl, -, -, -, -, -, -, -, -, e⟩ := amCopy_s h; cases e; simp
    · obtain ⟨N, av, rest, -, -, -, -, -, -, -, -, e⟩ := amCall_s h; cases e
  case h_6 =>
    split at h
    · obtain ⟨o, q, rfl, -, e⟩ := amObj_s h; cases e; simp
    · obtain ⟨N, av, rest, -, -, -, -, -, -, -, -, e⟩ := amCall_s h; cases e
  case h_7 => obtain ⟨v, -, e⟩ := Option.map_eq_some_iff.mp h; cases e
  case h_8 => obtain ⟨v, -, e⟩ := Option.map_eq_some_iff.mp h; cases e
  case h_9 => obtain ⟨v, -, e⟩ := Option.map_eq_some_iff.mp h; cases e
  case h_10 => obtain ⟨v, -, e⟩ := Option.map_eq_some_iff.mp h; cases e
  case h_11 => obtain ⟨v, -, e⟩ := Option.map_eq_some_iff.mp h; cases e
  case h_12 => obtain ⟨v, h1, e⟩ := Option.map_eq_some_iff.mp h; cases e; rw [amStep_len h1]; exact Nat.le_refl _
theorem amRun_mono {G : Nat → Option amM} : ∀ (f : Nat) (sc : Option (List Int32)) (d : Nat) (M : amM) (cs : amP) (pc : Nat) (ls : amL) (st : List Value) (hp : amH) (kc ks : Nat) (x : Option Value ⊕ Nat) (hp1 : amH) (mc ms : Nat), amRun G sc f d M cs pc ls st hp kc ks = some (x, hp1, mc, ms) → kc ≤ mc ∧ ks ≤ ms ∧ hp.length ≤ hp1.length := by
  intro f
  induction f with
  | zero => intro sc d M cs pc ls st hp kc ks x hp1 mc ms h; unfold amRun at h; cases h
  | succ f ih =>
    intro sc d M cs pc ls st hp kc ks x hp1 mc ms h
    cases cs with
    | nil => unfold amRun at h; cases h
    | cons q cs =>
      unfold amRun at h
      split at h
      · split at h
        · cases h
        · next r dk ds e =>
          obtain ⟨h1, h2, h3⟩ := ih _ _ _ _ _ _ _ _ _ _ _ _ _ _ h
          have := amDo_len e
          exact ⟨by omega, by omega, by omega⟩
        · cases h; exact ⟨Nat.le_refl _, Nat.le_refl _, Nat.le_refl _⟩
        · cases h; exact ⟨Nat.le_add_right _ _, Nat.le_add_right _ _, Nat.le_refl _⟩
        · split at h
          · split at h
            · next e =>
              obtain ⟨g1, g2, g3⟩ := ih _ _ _ _ _ _ _ _ _ _ _ _ _ _ e
              obtain ⟨h1, h2, h3⟩ := ih _ _ _ _ _ _ _ _ _ _ _ _ _ _ h
              exact ⟨by omega, by omega, by omega⟩
            · next e =>
              obtain ⟨g1, g2, g3⟩ := ih _ _ _ _ _ _ _ _ _ _ _ _ _ _ e
              split at h
              · cases h
              split at h
              · cases h; exact ⟨by omega, by omega, by omega⟩
              · split at h
                · obtain ⟨h1, h2, h3⟩ := ih _ _ _ _ _ _ _ _ _ _ _ _ _ _ h
                  exact ⟨by omega, by omega, by omega⟩
                · cases h
            · cases h
          · cases h
      · cases h
end
/-! ##### 04w.words ##### -/
section
/-! ===== words: what is known of them ===== -/
def sC (A : Nat → Prop) (U : State) (H : Heap) : Prop := va_Z "java/lang/String" "COMPACT_STRINGS" "Z" (.int 1) A U H ∧ va_Zq "jdk/internal/util/Preconditions" "SIOOBE_FORMATTER" "Ljava/util/function/BiFunction;" A U H
def sB (q t : Nat) (bs : List Int32) (A : Nat → Prop) (U : State) (H : Heap) : Prop := va_O "java/lang/String" q A U H ∧ va_OF "java/lang/String" "coder" "B" (.int 0) q A U H ∧ va_OF "java/lang/String" "value" "[B" (.ref t) q A U H ∧ va_T .byte t bs.length (fun j => .int (bs.getD j 0)) A U H
def sW (q t : Nat) (bs : List Int32) (A : Nat → Prop) (U : State) (H : Heap) : Prop := sC A U H ∧ sB q t bs A U H
theorem sC.moved {A : Nat → Prop} {u U : State} {H : Heap} (hvm : u.vm.Alike U.vm) (h : sC A u H) : sC A U H := ⟨va_Z.moved hvm h.1, va_Zq.moved hvm h.2⟩
theorem sB.moved {q t : Nat} {bs : List Int32} {A : Nat → Prop} {u U : State} {H : Heap} (hvm : u.vm.Alike U.vm) (h : sB q t bs A u H) : sB q t bs A U H := ⟨va_O.moved hvm h.1, va_OF.moved hvm h.2.1, va_OF.moved hvm h.2.2.1, va_T.moved hvm h.2.2.2⟩
theorem sC.kept {A : Nat → Prop} {U : State} {H H1 : Heap} (h : sC A U H) (hq : ∀ a : Nat, a < H.size → ¬ A a → H1[a]? = H[a]?) : sC A U H1 := ⟨h.1.kept hq, h.2.kept hq⟩
theorem sB.kept {q t : Nat} {bs : List Int32} {A : Nat → Prop} {U : State} {H H1 : Heap} (h : sB q t bs A U H) (hq : ∀ a : Nat, a < H.size → ¬ A a → H1[a]? = H[a]?) : sB q t bs A U H1 := ⟨h.1.kept hq, h.2.1.kept hq, h.2.2.1.kept hq, h.2.2.2.kept hq⟩
theorem sC.narrow {A B : Nat → Prop} {U : State} {H : Heap} (h : sC A U H) (hAB : ∀ q, B q → A q) : sC B U H := ⟨h.1.narrow hAB, h.2.narrow hAB⟩
theorem sB.narrow {q t : Nat} {bs : List Int32} {A B : Nat → Prop} {U : State} {H : Heap} (h : sB q t bs A U H) (hAB : ∀ q, B q → A q) : sB q t bs B U H := ⟨h.1.narrow hAB, h.2.1.narrow hAB, h.2.2.1.narrow hAB, h.2.2.2.narrow hAB⟩
end
