/-! ===== the abstract machine: making, calling, ending; whole runs ===== -/
abbrev amIn1 : Type := Instr × Nat × Nat
abbrev amP : Type := List (Nat × amIn1)
/-- a method: its code; how many locals; how many arguments, the receiver with them; is it a constructor; what it answers; its handlers (from, to, at, exception, local, behind); its class's place -/
abbrev amM : Type := amP × Nat × Nat × Bool × Option FieldType × List (Nat × Nat × Nat × Nat × Nat × Nat) × Nat
/-- what comes of an instruction: on (with cells and slots made), an answer, a throw, a call (method, arguments, the rest of the stack) -/
abbrev amAct : Type := (amR × Nat × Nat) ⊕ Option Value ⊕ Nat ⊕ (Nat × List Value × List Value)
abbrev amRes : Type := (Option Value ⊕ Nat) × amH × Nat × Nat
def amOk (n : Nat) : Value → Bool
  | .ref i => decide (i < n) || decide (amK ≤ i)
  | _ => true
def amOkL (n : Nat) (ls : amL) : Bool := ls.all (fun q => amOk n q.2)
def amOkS (n : Nat) (st : List Value) : Bool := st.all (amOk n)
def amOkH (n : Nat) (hp : amH) : Bool := hp.all (fun c => (decide (32 ≤ c.1) && decide (c.1 ≤ 34)) || c.2.all (amOk n))
def amDef (ci : Nat) : List Value := match vwCl[ci]? with
  | some r => (List.range r.2.2).map (fun k => defaultValue (amFty ci k))
  | none => []
def amKind : ArrayType → Option (Nat × Value)
  | .int => some (32, .int 0)
  | .long => some (33, .long 0)
  | .byte => some (34, .int 0)
  | _ => none
/-- a new cell at the end -/
def amMake (pc : Nat) (ls : amL) (r : List Value) (hp : amH) (c : amC) : Option amAct :=
  if (amOkL hp.length ls && amOkS hp.length r && amOkH hp.length hp && decide (hp.length < amK)) = true then some (.inl ((pc, ls, .ref hp.length :: r, hp ++ [c]), 1, c.2.length)) else none
def amMakeA (pc : Nat) (ls : amL) (hp : amH) (k : Option (Nat × Value)) : List Value → Option amAct
  | .int x :: r => match k with
    | some (t, v) => if ¬ x < 0 ∧ x.toNatClampNeg ≤ 100000 then amMake pc ls r hp (t, List.replicate x.toNatClampNeg v) else none
    | none => none
  | _ => none
def amCopy (pc : Nat) (ls : amL) (hp : amH) : List Value → Option amAct
  | .int n :: .int dp :: .ref a :: .int sp :: .ref a0 :: r => match hp[a0]?, hp[a]? with
    | some c0, some c1 => if c0.1 = 32 ∧ c1.1 = 32 ∧ ¬ sp < 0 ∧ ¬ dp < 0 ∧ ¬ n < 0 ∧ sp.toNatClampNeg + n.toNatClampNeg ≤ c0.2.length ∧ dp.toNatClampNeg + n.toNatClampNeg ≤ c1.2.length ∧ (r.map fun v => v.category).sum ≤ 8 then
        some (.inl ((pc, ls, r, hp.set a (32, c1.2.take dp.toNatClampNeg ++ ((c0.2.drop sp.toNatClampNeg).take n.toNatClampNeg ++ c1.2.drop (dp.toNatClampNeg + n.toNatClampNeg)))), 0, 0)) else none
    | _, _ => none
  | _ => none
def amObj (pc : Nat) (ls : amL) (hp : amH) : List Value → Option amAct
  | .ref _ :: r => if (r.map fun v => v.category).sum ≤ 8 then some (.inl ((pc, ls, r, hp), 0, 0)) else none
  | _ => none
/-- the words whose letters are read: their numbers, their bytes -/
def amSl : List (Nat × List Int32) := [(0, [112, 111, 105, 110, 116, 115]), (1, [100, 101, 118, 101, 108, 111, 112]), (2, [116, 114, 105, 112, 108, 101])]
def amWd (r : Nat) : Option (List Int32) := if amK ≤ r then (amSl.find? (fun q => q.1 == r - amK)).map (fun q => q.2) else none
theorem amWd_s {r : Nat} {l : List Int32} (h : amWd r = some l) : ∃ k, r = amK + k ∧ (k, l) ∈ amSl := by
  unfold amWd at h
  split at h
  · next e =>
    obtain ⟨q, h1, h2⟩ := Option.map_eq_some_iff.mp h
    have h3 := List.find?_some h1
    refine ⟨r - amK, by omega, ?_⟩
    have h4 : q.1 = r - amK := by simpa using h3
    rw [← h4, ← h2]
    exact List.mem_of_find?_eq_some h1
  · cases h
def amLenS (pc : Nat) (ls : amL) (hp : amH) : List Value → Option amAct
  | .ref r :: q => match amWd r with
    | some l => if (q.map fun v => v.category).sum ≤ 8 then some (.inl ((pc, ls, .int (Int32.ofNat l.length) :: q, hp), 0, 0)) else none
    | none => none
  | _ => none
def amChrS (pc : Nat) (ls : amL) (hp : amH) : List Value → Option amAct
  | .int i :: .ref r :: q => match amWd r with
    | some l => if amIn i l.length = true ∧ (q.map fun v => v.category).sum ≤ 8 then some (.inl ((pc, ls, .int (l.getD i.toNatClampNeg 0) :: q, hp), 0, 0)) else none
    | none => none
  | _ => none
/-- getClass of a row of objects -/
def amGetC (pc : Nat) (ls : amL) (hp : amH) : List Value → Option amAct
  | .ref x :: q => if amCls hp x = some 36 ∧ (q.map fun v => v.category).sum ≤ 8 then some (.inl ((pc, ls, .ref (amK + 204) :: q, hp), 0, 0)) else none
  | _ => none
/-- what is copied: a row of objects, of bytes -/
def amIsB : Value → Bool
  | .int x => fits .byte (.int x)
  | _ => false
/-- a row of bytes cloned -/
def amClone (pc : Nat) (ls : amL) (hp : amH) : List Value → Option amAct
  | .ref x :: r => match hp[x]? with
    | some c => if c.1 = 34 ∧ c.2.all amIsB = true ∧ (r.map fun v => v.category).sum ≤ 8 then amMake pc ls r hp (34, c.2) else none
    | none => none
  | _ => none
def amChrX (a pc : Nat) (ls : amL) (hp : amH) (st : List Value) : Option amAct := if a = 1 then amGetC pc ls hp st else if a = 2 then amClone pc ls hp st else amChrS pc ls hp st
def amSrc (hp : amH) (a0 t : Nat) : Option (List Value) := match hp[a0]? with
  | some c => if c.1 = t then some c.2 else none
  | none => if amK ≤ a0 then (match amKA (a0 - amK) with
    | some q => if q.1 = 34 ∧ t = 34 then some q.2 else none
    | none => none) else none
def amCopyX (pc : Nat) (ls : amL) (hp : amH) : List Value → Option amAct
  | .int n :: .int dp :: .ref a :: .int sp :: .ref a0 :: r => match hp[a]? with
    | some c1 => (match amSrc hp a0 c1.1 with
      | some c0 => if (c1.1 = 36 ∨ c1.1 = 34) ∧ ¬ sp < 0 ∧ ¬ dp < 0 ∧ ¬ n < 0 ∧ sp.toNatClampNeg + n.toNatClampNeg ≤ c0.length ∧ dp.toNatClampNeg + n.toNatClampNeg ≤ c1.2.length ∧ (r.map fun v => v.category).sum ≤ 8 ∧ ((c0.drop sp.toNatClampNeg).take n.toNatClampNeg).all (if c1.1 = 36 then amIsO hp else amIsB) = true then
          some (.inl ((pc, ls, r, hp.set a (c1.1, c1.2.take dp.toNatClampNeg ++ ((c0.drop sp.toNatClampNeg).take n.toNatClampNeg ++ c1.2.drop (dp.toNatClampNeg + n.toNatClampNeg)))), 0, 0)) else none
      | none => none)
    | none => none
  | _ => none
def amCopyY (a pc : Nat) (ls : amL) (hp : amH) (st : List Value) : Option amAct := if a = 1 then amCopyX pc ls hp st else amCopy pc ls hp st
theorem amGetC_s {pc : Nat} {ls : amL} {hp : amH} {st : List Value} {x : amAct} (h : amGetC pc ls hp st = some x) : ∃ o q, st = .ref o :: q ∧ amCls hp o = some 36 ∧ (q.map fun v => v.category).sum ≤ 8 ∧ x = .inl ((pc, ls, .ref (amK + 204) :: q, hp), 0, 0) := by
  unfold amGetC at h
  split at h
  · next o q =>
    split at h
    · next e => cases h; exact ⟨o, q, rfl, e.1, e.2, rfl⟩
    · cases h
  · cases h
theorem amCopyX_s {pc : Nat} {ls : amL} {hp : amH} {st : List Value} {x : amAct} (h : amCopyX pc ls hp st = some x) : ∃ n dp a sp a0 r t c0 c1, st = .int n :: .int dp :: .ref a :: .int sp :: .ref a0 :: r ∧ hp[a]? = some (t, c1) ∧ amSrc hp a0 t = some c0 ∧ (t = 36 ∨ t = 34) ∧ ¬ sp < 0 ∧ ¬ dp < 0 ∧ ¬ n < 0 ∧ sp.toNatClampNeg + n.toNatClampNeg ≤ c0.length ∧ dp.toNatClampNeg + n.toNatClampNeg ≤ c1.length ∧ (r.map fun v => v.category).sum ≤ 8 ∧ ((c0.drop sp.toNatClampNeg).take n.toNatClampNeg).all (if t = 36 then amIsO hp else amIsB) = true ∧
    x = .inl ((pc, ls, r, hp.set a (t, c1.take dp.toNatClampNeg ++ ((c0.drop sp.toNatClampNeg).take n.toNatClampNeg ++ c1.drop (dp.toNatClampNeg + n.toNatClampNeg)))), 0, 0) := by
  unfold amCopyX at h
  split at h
  · next n dp a sp a0 r =>
    split at h
    · next c1 e1 =>
      obtain ⟨t, c1⟩ := c1
      split at h
      · next c0 e0 =>
        split at h
        · next e =>
          obtain ⟨q0, q3, q4, q5, q6, q7, q8, q9⟩ := e
          cases h
          exact ⟨n, dp, a, sp, a0, r, t, c0, c1, rfl, e1, e0, q0, q3, q4, q5, q6, q7, q8, q9, rfl⟩
        · cases h
      · cases h
    · cases h
  · cases h
theorem amSrc_s {hp : amH} {a0 t : Nat} {c : List Value} (h : amSrc hp a0 t = some c) : hp[a0]? = some (t, c) ∨ (∃ k l, a0 = amK + k ∧ (k, l) ∈ amKby ∧ t = 34 ∧ c = l.map Value.int) := by
  unfold amSrc at h
  split at h
  · next c0 e0 =>
    split at h
    · next e => cases h; rw [← e]; exact Or.inl e0
    · cases h
  · split at h
    · next e =>
      split at h
      · next q hq =>
        split at h
        · next e2 =>
          obtain ⟨t9, c9⟩ := q
          cases h
          rcases amKA_in hq with ⟨-, e3, -⟩ | ⟨-, e3, -⟩ | ⟨l, h1, h2, h3⟩
          · rw [e3] at e2; exact absurd e2.1 (by decide)
          · rw [e3] at e2; exact absurd e2.1 (by decide)
          · exact Or.inr ⟨a0 - amK, l, by omega, h1, e2.2, h3⟩
        · cases h
      · cases h
    · cases h
theorem amLenS_s {pc : Nat} {ls : amL} {hp : amH} {st : List Value} {x : amAct} (h : amLenS pc ls hp st = some x) : ∃ k l q, (k, l) ∈ amSl ∧ st = .ref (amK + k) :: q ∧ (q.map fun v => v.category).sum ≤ 8 ∧ x = .inl ((pc, ls, .int (Int32.ofNat l.length) :: q, hp), 0, 0) := by
  unfold amLenS at h
  split at h
  · next r q =>
    split at h
    · next l e =>
      obtain ⟨k, rfl, hk⟩ := amWd_s e
      split at h
      · next e2 => cases h; exact ⟨k, l, q, hk, rfl, e2, rfl⟩
      · cases h
    · cases h
  · cases h
theorem amChrS_s {pc : Nat} {ls : amL} {hp : amH} {st : List Value} {x : amAct} (h : amChrS pc ls hp st = some x) : ∃ i k l q, (k, l) ∈ amSl ∧ st = .int i :: .ref (amK + k) :: q ∧ vp_in i l.length ∧ (q.map fun v => v.category).sum ≤ 8 ∧ x = .inl ((pc, ls, .int (l.getD i.toNatClampNeg 0) :: q, hp), 0, 0) := by
  unfold amChrS at h
  split at h
  · next i r q =>
    split at h
    · next l e =>
      obtain ⟨k, rfl, hk⟩ := amWd_s e
      split at h
      · next e2 => cases h; exact ⟨i, k, l, q, hk, rfl, amIn_s e2.1, e2.2, rfl⟩
      · cases h
    · cases h
  · cases h
def amRetV (ret : Option FieldType) (i : Instr) (st : List Value) : Option (Option Value) :=
  match i with
  | .ireturn => match ret, st with
    | some ty, [.int x] => if narrow ty (.int x) = .int x then some (some (.int x)) else none
    | _, _ => none
  | .lreturn => match ret, st with
    | some .long, [.long x] => some (some (.long x))
    | _, _ => none
  | .freturn => match ret, st with
    | some .float, [.float x] => some (some (.float x))
    | _, _ => none
  | .dreturn => match ret, st with
    | some .double, [.double x] => some (some (.double x))
    | _, _ => none
  | .return_ => match ret, st with
    | none, [] => some none
    | _, _ => none
  | .areturn => match ret, st with
    | some (.object _), [v] => if amIsA v = true then some (some v) else none
    | some (.array _), [v] => if amIsA v = true then some (some v) else none
    | _, _ => none
  | _ => none
/-- the receiver: of the class at the place ci (virt), or any cell (a constructor), or none (static) -/
def amRecv (k ci : Nat) (hp : amH) : List Value → Bool
  | .ref o :: _ => if k = 0 then (match hp[o]? with
      | some c => decide (c.1 = ci ∧ ci < 32)
      | none => if amK ≤ o then decide (amKc (o - amK) = some ci ∧ ci < 32) else false) else true
  | _ => decide (k = 1)
/-- k: 0 by the receiver's class, 1 static, 2 a constructor -/
def amCall (G : Nat → Option amM) (k a : Nat) (ls : amL) (st : List Value) (hp : amH) : Option amAct := match G a with
  | some N => if N.2.2.1 ≤ st.length ∧ ((st.take N.2.2.1).map fun v => v.category).sum ≤ N.2.1 ∧ (amOkL hp.length ls && amOkS hp.length (st.drop N.2.2.1) && amRecv k N.2.2.2.2.2.2 hp (st.take N.2.2.1).reverse) = true ∧ ((st.drop N.2.2.1).map fun v => v.category).sum ≤ 8 then
      some (.inr (.inr (.inr (a, (st.take N.2.2.1).reverse, st.drop N.2.2.1)))) else none
  | none => none
def amDo (G : Nat → Option amM) (M : amM) (sc : Option (List Int32)) (i : Instr) (a b : Nat) (pc : Nat) (ls : amL) (st : List Value) (hp : amH) : Option amAct :=
  match i with
  | .new _ => if b = 0 then amMake (pc + 3) ls st hp (a, amDef a) else if (st.map fun v => v.category).sum ≤ 8 ∧ M.2.2.2.2.2.1 = [] then some (.inr (.inr (.inl a))) else none
  | .newarray t => amMakeA (pc + 2) ls hp (amKind t) st
  | .anewarray _ => amMakeA (pc + 3) ls hp (some (if a = 1 then 36 else 35, .null)) st
  | .invokevirtual _ => if b = 7 then amLenS (pc + 3) ls hp st else if b = 8 then amChrX a (pc + 3) ls hp st else amCall G 0 a ls st hp
  | .invokestatic _ => if b = 6 then amCopyY a (pc + 3) ls hp st else amCall G 1 a ls st hp
  | .invokespecial _ => if b = 5 then amObj (pc + 3) ls hp st else amCall G (if b = 12 then 0 else 2) a ls st hp
  | .ireturn => (amRetV M.2.2.2.2.1 .ireturn st).map (fun v => .inr (.inl v))
  | .lreturn => (amRetV M.2.2.2.2.1 .lreturn st).map (fun v => .inr (.inl v))
  | .freturn => (amRetV M.2.2.2.2.1 .freturn st).map (fun v => .inr (.inl v))
  | .dreturn => (amRetV M.2.2.2.2.1 .dreturn st).map (fun v => .inr (.inl v))
  | .return_ => (amRetV M.2.2.2.2.1 .return_ st).map (fun v => .inr (.inl v))
  | .areturn => (amRetV M.2.2.2.2.1 .areturn st).map (fun v => .inr (.inl v))
  | .invokeinterface _ _ => amCall G 0 a ls st hp
  | j => (amStep sc M.2.1 j a b pc ls st hp).map (fun r => .inl (r, 0, 0))
def amSeek (cs : amP) (pc : Nat) : amP := cs.dropWhile (fun q => q.1 != pc)
def amNext (M : amM) (cs : amP) (pc : Nat) : amP := match cs with
  | q :: _ => if q.1 = pc then cs else amSeek M.1 pc
  | [] => amSeek M.1 pc
def amHand (hs : List (Nat × Nat × Nat × Nat × Nat × Nat)) (pc E : Nat) : Option (Nat × Nat × Nat) := match hs with
  | [] => none
  | h :: r => if h.1 ≤ pc ∧ pc < h.2.1 ∧ h.2.2.2.1 = E then some (h.2.2.1, h.2.2.2.2) else amHand r pc E
def amDrop (ls : amL) (i : Nat) : amL := ls.filter (fun q => !(q.1 == i) && !(q.1 + 1 == i && q.2.category == 2))
/-- the calls that may throw -/
def amMay : Instr → Nat → Bool
  | .invokevirtual _, b => decide (b = 0)
  | .invokestatic _, b => decide (b = 0)
  | _, _ => false
/-- a call's length -/
def amCs : Instr → Nat
  | .invokeinterface _ _ => 5
  | _ => 3
/-- who is handed the script -/
def amPs (k : Nat) : Bool := Nat.beq k 385
def amSub (k : Nat) : Option (List Int32) → Option (List Int32)
  | none => none
  | some l => if amPs k = true then some l else none
/-- a run: f steps at most, calls d deep at most -/
def amRun (G : Nat → Option amM) (sc : Option (List Int32)) : Nat → Nat → amM → amP → Nat → amL → List Value → amH → Nat → Nat → Option amRes
  | 0, _, _, _, _, _, _, _, _, _ => none
  | _ + 1, _, _, [], _, _, _, _, _, _ => none
  | f + 1, d, M, q :: cs, pc, ls, st, hp, kc, ks =>
    if q.1 = pc then
      match amDo G M sc q.2.1 q.2.2.1 q.2.2.2 pc ls st hp with
      | none => none
      | some (.inl (r, dk, ds)) => amRun G sc f d M (amNext M cs r.1) r.1 r.2.1 r.2.2.1 r.2.2.2 (kc + dk) (ks + ds)
      | some (.inr (.inl v)) => some (.inl v, hp, kc, ks)
      | some (.inr (.inr (.inl E))) => some (.inr E, hp, kc + 1, ks + 6)
      | some (.inr (.inr (.inr (k, av, rest)))) =>
        match d, G k with
        | d' + 1, some N =>
          match amRun G (amSub k sc) f d' N N.1 0 (lv_args 0 av) [] hp 0 0 with
          | some (.inl v, hp1, mc, ms) => amRun G sc f (d' + 1) M (amNext M cs (pc + amCs q.2.1)) (pc + amCs q.2.1) ls (v.toList ++ rest) hp1 (kc + mc) (ks + ms)
          | some (.inr E, hp1, mc, ms) =>
            if amMay q.2.1 q.2.2.2 = false then none
            else if M.2.2.2.2.2.1 = [] then some (.inr E, hp1, kc + mc, ks + ms)
            else match amHand M.2.2.2.2.2.1 pc E with
              | some (_, x, to) => amRun G sc f (d' + 1) M (amSeek M.1 to) to (amDrop ls x) [] hp1 (kc + mc) (ks + ms)
              | none => none
          | none => none
        | _, _ => none
    else none
theorem amStep_len {sc : Option (List Int32)} {nL : Nat} {i : Instr} {a b pc : Nat} {ls : amL} {st : List Value} {hp : amH} {r : amR} (h : amStep sc nL i a b pc ls st hp = some r) : r.2.2.2.length = hp.length := by
  cases i
  all_goals first
    | exact absurd (show (none : Option amR) = some r from h) (by intro z; cases z)
    | (cases h; rfl)
    | (simp only [amStep] at h
       obtain ⟨s1, h1, rfl⟩ := Option.map_eq_some_iff.mp h
       first
         | rfl
         | (obtain ⟨v, i, o, q, cs, rfl, hc, hin, hpv, rfl⟩ := amASt_s h1; simp)
         | (obtain ⟨v, o, q, fs, rfl, hc, hlt, hlen, hnar, hfit, rfl⟩ := amFSet_s h1; simp))
    | (simp only [amStep] at h
       repeat' split at h
       all_goals first
         | (cases h; rfl)
         | cases h
         | (obtain ⟨s1, h1, rfl⟩ := Option.map_eq_some_iff.mp h; rfl)
         | (next s1 h1 => cases h; obtain ⟨v, i, o, q, cs, rfl, hc, hin, hpv, rfl⟩ := amASt_s h1; simp)
         | (obtain ⟨s1, h1, rfl⟩ := Option.map_eq_some_iff.mp h; obtain ⟨v, i, o, q, cs, rfl, hc, hin, hpv, rfl⟩ := amASt_s h1; simp))
theorem amMake_s {pc : Nat} {ls : amL} {r : List Value} {hp : amH} {c : amC} {x : amAct} (h : amMake pc ls r hp c = some x) : amOkL hp.length ls = true ∧ amOkS hp.length r = true ∧ amOkH hp.length hp = true ∧ hp.length < amK ∧ x = .inl ((pc, ls, .ref hp.length :: r, hp ++ [c]), 1, c.2.length) := by
  unfold amMake at h
  split at h
  · next e =>
    simp only [Bool.and_eq_true, decide_eq_true_eq] at e
    cases h
    exact ⟨e.1.1.1, e.1.1.2, e.1.2, e.2, rfl⟩
  · cases h
theorem amMakeA_s {pc : Nat} {ls : amL} {st : List Value} {hp : amH} {k : Option (Nat × Value)} {x : amAct} (h : amMakeA pc ls hp k st = some x) : ∃ n r t v, st = .int n :: r ∧ k = some (t, v) ∧ ¬ n < 0 ∧ n.toNatClampNeg ≤ 100000 ∧ amMake pc ls r hp (t, List.replicate n.toNatClampNeg v) = some x := by
  unfold amMakeA at h
  split at h
  · next n r =>
    split at h
    · next t v =>
      split at h
      · next e => exact ⟨n, r, t, v, rfl, rfl, e.1, e.2, h⟩
      · cases h
    · cases h
  · cases h
theorem amCopy_s {pc : Nat} {ls : amL} {st : List Value} {hp : amH} {x : amAct} (h : amCopy pc ls hp st = some x) : ∃ n dp a sp a0 r c0 c1, st = .int n :: .int dp :: .ref a :: .int sp :: .ref a0 :: r ∧ hp[a0]? = some (32, c0) ∧ hp[a]? = some (32, c1) ∧ ¬ sp < 0 ∧ ¬ dp < 0 ∧ ¬ n < 0 ∧ sp.toNatClampNeg + n.toNatClampNeg ≤ c0.length ∧ dp.toNatClampNeg + n.toNatClampNeg ≤ c1.length ∧ (r.map fun v => v.category).sum ≤ 8 ∧
    x = .inl ((pc, ls, r, hp.set a (32, c1.take dp.toNatClampNeg ++ ((c0.drop sp.toNatClampNeg).take n.toNatClampNeg ++ c1.drop (dp.toNatClampNeg + n.toNatClampNeg)))), 0, 0) := by
  unfold amCopy at h
  split at h
  · next n dp a sp a0 r =>
    split at h
    · next c0 c1 e0 e1 =>
      split at h
      · next e =>
        obtain ⟨t0, c0⟩ := c0
        obtain ⟨t1, c1⟩ := c1
        obtain ⟨q1, q2, q3, q4, q5, q6, q7, q8⟩ := e
        dsimp only at q1 q2 q6 q7
        subst q1; subst q2
        cases h
        exact ⟨n, dp, a, sp, a0, r, c0, c1, rfl, e0, e1, q3, q4, q5, q6, q7, q8, rfl⟩
      · cases h
    · cases h
  · cases h
theorem amClone_s {pc : Nat} {ls : amL} {hp : amH} {st : List Value} {x : amAct} (h : amClone pc ls hp st = some x) : ∃ o r c, st = .ref o :: r ∧ hp[o]? = some (34, c) ∧ c.all amIsB = true ∧ (r.map fun v => v.category).sum ≤ 8 ∧ amMake pc ls r hp (34, c) = some x := by
  unfold amClone at h
  split at h
  · next o r =>
    split at h
    · next c hc =>
      split at h
      · next e =>
        obtain ⟨t, c⟩ := c
        obtain ⟨e1, e2, e3⟩ := e
        dsimp only at e1
        subst e1
        exact ⟨o, r, c, rfl, hc, e2, e3, h⟩
      · cases h
    · cases h
  · cases h
theorem amChrX_e {a pc : Nat} {ls : amL} {hp : amH} {st : List Value} {x : amAct} (h : amChrX a pc ls hp st = some x) : ∃ st1 hp1 dk ds, hp.length ≤ hp1.length ∧ x = .inl ((pc, ls, st1, hp1), dk, ds) := by
  unfold amChrX at h
  split at h
  · obtain ⟨_, _, -, -, -, e⟩ := amGetC_s h; exact ⟨_, _, _, _, Nat.le_refl _, e⟩
  · split at h
    · obtain ⟨_, _, _, -, -, -, -, h⟩ := amClone_s h
      obtain ⟨-, -, -, -, e⟩ := amMake_s h
      exact ⟨_, _, _, _, by simp, e⟩
    · obtain ⟨_, _, _, _, -, -, -, -, e⟩ := amChrS_s h; exact ⟨_, _, _, _, Nat.le_refl _, e⟩
theorem amCopyY_e {a pc : Nat} {ls : amL} {hp : amH} {st : List Value} {x : amAct} (h : amCopyY a pc ls hp st = some x) : ∃ st1 hp1, hp1.length = hp.length ∧ x = .inl ((pc, ls, st1, hp1), 0, 0) := by
  unfold amCopyY at h
  split at h
  · obtain ⟨_, _, _, _, _, _, _, _, _, -, -, -, -, -, -, -, -, -, -, -, e⟩ := amCopyX_s h; exact ⟨_, _, by simp, e⟩
  · obtain ⟨_, _, _, _, _, _, _, _, -, -, -, -, -, -, -, -, -, e⟩ := amCopy_s h; exact ⟨_, _, by simp, e⟩
theorem amObj_s {pc : Nat} {ls : amL} {st : List Value} {hp : amH} {x : amAct} (h : amObj pc ls hp st = some x) : ∃ a r, st = .ref a :: r ∧ (r.map fun v => v.category).sum ≤ 8 ∧ x = .inl ((pc, ls, r, hp), 0, 0) := by
  unfold amObj at h
  split at h
  · next a r =>
    split at h
    · next e => cases h; exact ⟨a, r, rfl, e, rfl⟩
    · cases h
  · cases h
theorem amCall_s {G : Nat → Option amM} {k a : Nat} {ls : amL} {st : List Value} {hp : amH} {x : amAct} (h : amCall G k a ls st hp = some x) : ∃ N av rest, G a = some N ∧ st = av.reverse ++ rest ∧ av.length = N.2.2.1 ∧ amOkL hp.length ls = true ∧ amOkS hp.length rest = true ∧ amRecv k N.2.2.2.2.2.2 hp av = true ∧ (rest.map fun v => v.category).sum ≤ 8 ∧ (av.map fun v => v.category).sum ≤ N.2.1 ∧ x = .inr (.inr (.inr (a, av, rest))) := by
  unfold amCall at h
  split at h
  · next N e =>
    split at h
    · next q =>
      obtain ⟨q1, q0, q2, q3⟩ := q
      simp only [Bool.and_eq_true] at q2
      cases h
      refine ⟨N, _, _, e, ?_, ?_, q2.1.1, q2.1.2, q2.2, q3, by rw [List.map_reverse, List.sum_reverse]; exact q0, rfl⟩
      · rw [List.reverse_reverse, List.take_append_drop]
      · rw [List.length_reverse, List.length_take]; omega
    · cases h
  · cases h
/-- what goes on leaves the cells in their places -/
theorem amDo_len {G : Nat → Option amM} {M : amM} {sc : Option (List Int32)} {i : Instr} {a b pc : Nat} {ls : amL} {st : List Value} {hp : amH} {r : amR} {dk ds : Nat} (h : amDo G M sc i a b pc ls st hp = some (.inl (r, dk, ds))) : hp.length ≤ r.2.2.2.length := by
  unfold amDo at h
  split at h
  case h_1 => 
    split at h
    · obtain ⟨-, -, -, -, e⟩ := amMake_s h; cases e; simp
    · split at h <;> cases h
  case h_2 => obtain ⟨n, q, t, v, rfl, -, -, -, h⟩ := amMakeA_s h; obtain ⟨-, -, -, -, e⟩ := amMake_s h; cases e; simp
  case h_3 => obtain ⟨n, q, t, v, rfl, -, -, -, h⟩ := amMakeA_s h; obtain ⟨-, -, -, -, e⟩ := amMake_s h; cases e; simp
  case h_4 =>
    split at h
    · obtain ⟨_, _, _, -, rfl, -, e⟩ := amLenS_s h; cases e; simp
    · split at h
      · obtain ⟨_, _, _, _, e9, e⟩ := amChrX_e h; cases e; exact e9
      · obtain ⟨N, av, rest, -, -, -, -, -, -, -, -, e⟩ := amCall_s h; cases e
  case h_5 =>
    split at h
    · obtain ⟨_, _, e9, e⟩ := amCopyY_e h; cases e; dsimp only; omega
    · obtain ⟨N, av, rest, -, -, -, -, -, -, -, -, e⟩ := amCall_s h; cases e
  case h_6 =>
    split at h
    · obtain ⟨o, q, rfl, -, e⟩ := amObj_s h; cases e; simp
    · obtain ⟨N, av, rest, -, -, -, -, -, -, -, -, e⟩ := amCall_s h; cases e
  case h_7 => obtain ⟨v, -, e⟩ := Option.map_eq_some_iff.mp h; cases e
  case h_8 => obtain ⟨v, -, e⟩ := Option.map_eq_some_iff.mp h; cases e
  case h_9 => obtain ⟨v, -, e⟩ := Option.map_eq_some_iff.mp h; cases e
  case h_10 => obtain ⟨v, -, e⟩ := Option.map_eq_some_iff.mp h; cases e
  case h_11 => obtain ⟨v, -, e⟩ := Option.map_eq_some_iff.mp h; cases e
  case h_12 => obtain ⟨v, -, e⟩ := Option.map_eq_some_iff.mp h; cases e
  case h_13 => obtain ⟨N, av, rest, -, -, -, -, -, -, -, -, e⟩ := amCall_s h; cases e
  case h_14 => obtain ⟨v, h1, e⟩ := Option.map_eq_some_iff.mp h; cases e; rw [amStep_len h1]; exact Nat.le_refl _
theorem amRun_mono {G : Nat → Option amM} : ∀ (f : Nat) (sc : Option (List Int32)) (d : Nat) (M : amM) (cs : amP) (pc : Nat) (ls : amL) (st : List Value) (hp : amH) (kc ks : Nat) (x : Option Value ⊕ Nat) (hp1 : amH) (mc ms : Nat), amRun G sc f d M cs pc ls st hp kc ks = some (x, hp1, mc, ms) → kc ≤ mc ∧ ks ≤ ms ∧ hp.length ≤ hp1.length := by
  intro f
  induction f with
  | zero => intro sc d M cs pc ls st hp kc ks x hp1 mc ms h; unfold amRun at h; cases h
  | succ f ih =>
    intro sc d M cs pc ls st hp kc ks x hp1 mc ms h
    cases cs with
    | nil => unfold amRun at h; cases h
    | cons q cs =>
      unfold amRun at h
      split at h
      · split at h
        · cases h
        · next r dk ds e =>
          obtain ⟨h1, h2, h3⟩ := ih _ _ _ _ _ _ _ _ _ _ _ _ _ _ h
          have := amDo_len e
          exact ⟨by omega, by omega, by omega⟩
        · cases h; exact ⟨Nat.le_refl _, Nat.le_refl _, Nat.le_refl _⟩
        · cases h; exact ⟨Nat.le_add_right _ _, Nat.le_add_right _ _, Nat.le_refl _⟩
        · split at h
          · split at h
            · next e =>
              obtain ⟨g1, g2, g3⟩ := ih _ _ _ _ _ _ _ _ _ _ _ _ _ _ e
              obtain ⟨h1, h2, h3⟩ := ih _ _ _ _ _ _ _ _ _ _ _ _ _ _ h
              exact ⟨by omega, by omega, by omega⟩
            · next e =>
              obtain ⟨g1, g2, g3⟩ := ih _ _ _ _ _ _ _ _ _ _ _ _ _ _ e
              split at h
              · cases h
              split at h
              · cases h; exact ⟨by omega, by omega, by omega⟩
              · split at h
                · obtain ⟨h1, h2, h3⟩ := ih _ _ _ _ _ _ _ _ _ _ _ _ _ _ h
                  exact ⟨by omega, by omega, by omega⟩
                · cases h
            · cases h
          · cases h
      · cases h
