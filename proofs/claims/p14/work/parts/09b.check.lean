/-! ===== tables of methods, checked by program ===== -/
noncomputable def amAt (i : Nat) (w : Jvm.Cond) : Bool := goodWord w && decide (lw_tbl[i]? = some w)
noncomputable def amAts : List Nat → List Jvm.Cond → Bool
  | i :: is, w :: ws => amAt i w && amAts is ws
  | [], [] => true
  | _, _ => false
theorem amAt_s {i : Nat} {w : Jvm.Cond} (h : amAt i w = true) : w ∈ amWL := by
  simp only [amAt, Bool.and_eq_true, decide_eq_true_eq] at h
  exact amWL_in (List.mem_of_getElem? h.2) h.1
theorem amAts_s : ∀ {is : List Nat} {ws : List Jvm.Cond}, amAts is ws = true → ∀ w ∈ ws, w ∈ amWL
  | [], [], _, w, hw => by cases hw
  | i :: is, w' :: ws, h, w, hw => by
    simp only [amAts, Bool.and_eq_true] at h
    rcases List.mem_cons.mp hw with rfl | hw
    · exact amAt_s h.1
    · exact amAts_s h.2 w hw
  | [], _ :: _, h, _, _ => by cases h
  | _ :: _, [], h, _, _ => by cases h
noncomputable def amMHB (y : MethodName) : Bool := decide (y.cls ≠ "java/lang/invoke/MethodHandle") && decide (y.cls ≠ "java/lang/invoke/VarHandle")
theorem amMHB_s {y : MethodName} (h : amMHB y = true) : amNotMH y := by
  simp only [amMHB, Bool.and_eq_true, decide_eq_true_eq] at h
  exact h
noncomputable def amPar (y : MethodName) : Option Nat := (parseMethodDescriptor y.desc).map (fun d => d.parameters.length)
noncomputable def amThrB (own : String) (cc : ByteArray) (pc k a b : Nat) (h : List Nat) : Bool := match amEx[a]?, amXic[a]?, amStr[(b - 1) / 2]? with
  | some cls, some ic, some r => decide (own = "TripleTrains") && decide (r.1 = own) && amAts h [Jvm.Cond.classLink own k cls, Jvm.Cond.initialized cls] && decide (decode cc (pc + 3) = .ok (.dup, 1)) &&
      (if (b - 1) % 2 = 0 then decide (decode cc (pc + 4) = .ok (.ldc r.2.1, 2)) && decide (decode cc (pc + 6) = .ok (.invokespecial ic, 3)) && decide (decode cc (pc + 9) = .ok (.athrow, 1))
       else decide (decode cc (pc + 4) = .ok (.ldc_w r.2.1, 3)) && decide (decode cc (pc + 7) = .ok (.invokespecial ic, 3)) && decide (decode cc (pc + 10) = .ok (.athrow, 1)))
  | _, _, _ => false
theorem amThrB_s {own : String} {cc : ByteArray} {pc k a b : Nat} {h : List Nat} (hh : amThrB own cc pc k a b h = true) : amThr own cc pc k a b := by
  unfold amThrB at hh
  split at hh
  · next cls ic r e1 e2 e3 =>
    simp only [Bool.and_eq_true, decide_eq_true_eq] at hh
    obtain ⟨⟨⟨⟨h1, h2⟩, h3⟩, h4⟩, h5⟩ := hh
    have w := amAts_s h3
    refine ⟨cls, r.2.1, r.2.2, ic, e1, by rw [e3, ← h2], am_fit _ (List.mem_of_getElem? e1), w _ (by simp), w _ (by simp), ?_, h4, ?_⟩
    · subst h1
      match a, e1, e2 with
      | 0, e1, e2 => cases e1; cases e2; exact Or.inr am_x0
      | 1, e1, e2 => cases e1; cases e2; exact Or.inr am_x1
      | 2, e1, e2 => cases e1; cases e2; exact Or.inr am_x2
      | 3, e1, e2 => cases e1; cases e2; exact Or.inl ⟨rfl, rfl, rfl⟩
      | a + 4, e1, _ => simp [amEx] at e1
    · split at h5
      · next e => rw [if_pos e]; simp only [Bool.and_eq_true, decide_eq_true_eq] at h5; exact ⟨h5.1.1, h5.1.2, h5.2⟩
      · next e => rw [if_neg e]; simp only [Bool.and_eq_true, decide_eq_true_eq] at h5; exact ⟨h5.1.1, h5.1.2, h5.2⟩
  · cases hh
noncomputable def amNestB (own : String) (k : Nat) (y : MethodName) (i : Nat) : Bool := match lw_tbl[i]? with
  | some (.methodLinkNest o k' y' _) => decide (o = own ∧ k' = k ∧ y' = y)
  | _ => false
theorem amNestB_s {own : String} {k : Nat} {y : MethodName} {i : Nat} (h : amNestB own k y i = true) : ∃ host, Jvm.Cond.methodLinkNest own k y host ∈ lw_tbl := by
  unfold amNestB at h
  split at h
  · next o k' y' host e =>
    have h := of_decide_eq_true h
    obtain ⟨rfl, rfl, rfl⟩ := h
    exact ⟨host, List.mem_of_getElem? e⟩
  · cases h
noncomputable def amDecB (cc : ByteArray) (pc : Nat) (i : Instr) : Bool := match decode cc pc with
  | .ok (j, n) => decide (j = i) && (decide (amSz i = 0) || decide (n = amSz i))
  | _ => false
theorem amDecB_s {cc : ByteArray} {pc : Nat} {i : Instr} (h : amDecB cc pc i = true) : ∃ n, decode cc pc = .ok (i, n) ∧ (amSz i = 0 ∨ n = amSz i) := by
  unfold amDecB at h
  split at h
  · next j n e =>
    simp only [Bool.and_eq_true, Bool.or_eq_true, decide_eq_true_eq] at h
    obtain ⟨rfl, h2⟩ := h
    exact ⟨n, e, h2⟩
  · cases h
noncomputable def amLkB (own : String) (ini : Bool) (pc : Nat) (i : Instr) (a b : Nat) (h : List Nat) : Bool :=
  match i with
  | .ldc k => if b = 0 then amAts h [Jvm.Cond.constant own k (Int32.ofNat a)] else (match amStr[a]? with
    | some r => decide (r.1 = own) && decide (r.2.1 = k)
    | none => false)
  | .ldc_w k => if b = 0 then amAts h [Jvm.Cond.constant own k (Int32.ofNat a)] else (match amStr[a]? with
    | some r => decide (r.1 = own) && decide (r.2.1 = k)
    | none => false)
  | .ldc2_w k => amAts h [Jvm.Cond.constantLong own k (Int64.ofNat a)]
  | .goto o => decide ((pc : Int) + o = (a : Int))
  | .ifCond _ o => decide ((pc : Int) + o = (a : Int))
  | .if_icmp _ o => decide ((pc : Int) + o = (a : Int))
  | .ifnull o => decide ((pc : Int) + o = (a : Int))
  | .ifnonnull o => decide ((pc : Int) + o = (a : Int))
  | .getfield k => (match vwCl[a]? with
    | some r => decide (b < r.2.2) && amAts h [Jvm.Cond.fieldLink own k (r.2.1 b).1 (r.2.1 b).2.1 (r.2.1 b).2.2.1]
    | none => false)
  | .putfield k => (match vwCl[a]? with
    | some r => decide (b < r.2.2) && amAts h [Jvm.Cond.fieldLink own k (r.2.1 b).1 (r.2.1 b).2.1 (r.2.1 b).2.2.1] && (!(r.2.1 b).2.2.2 || (ini && decide ((r.2.1 b).1 = own)))
    | none => false)
  | _ => true
theorem amLkB_s {own : String} {ini : Bool} {pc : Nat} {i : Instr} {a b : Nat} {h : List Nat} (hh : amLkB own ini pc i a b h = true) : amLk amWL own ini pc i a b := by
  cases i
  case ldc k =>
    unfold amLkB at hh
    dsimp only at hh
    split at hh
    · next e => exact ⟨fun _ => amAts_s hh _ (by simp), fun z => absurd e z⟩
    · next e =>
      refine ⟨fun z => absurd z e, fun _ => ?_⟩
      split at hh
      · next r er =>
        simp only [Bool.and_eq_true, decide_eq_true_eq] at hh
        exact ⟨r.2.2, by rw [er, ← hh.1, ← hh.2]⟩
      · cases hh
  case ldc_w k =>
    unfold amLkB at hh
    dsimp only at hh
    split at hh
    · next e => exact ⟨fun _ => amAts_s hh _ (by simp), fun z => absurd e z⟩
    · next e =>
      refine ⟨fun z => absurd z e, fun _ => ?_⟩
      split at hh
      · next r er =>
        simp only [Bool.and_eq_true, decide_eq_true_eq] at hh
        exact ⟨r.2.2, by rw [er, ← hh.1, ← hh.2]⟩
      · cases hh
  case ldc2_w k => exact amAts_s hh _ (by simp)
  case goto o => exact of_decide_eq_true (p := (pc : Int) + o = (a : Int)) hh
  case ifCond _ o => exact of_decide_eq_true (p := (pc : Int) + o = (a : Int)) hh
  case if_icmp _ o => exact of_decide_eq_true (p := (pc : Int) + o = (a : Int)) hh
  case ifnull o => exact of_decide_eq_true (p := (pc : Int) + o = (a : Int)) hh
  case ifnonnull o => exact of_decide_eq_true (p := (pc : Int) + o = (a : Int)) hh
  case getfield k =>
    unfold amLkB at hh
    dsimp only at hh
    split at hh
    · next r er =>
      simp only [Bool.and_eq_true, decide_eq_true_eq] at hh
      exact ⟨r, er, hh.1, amAts_s hh.2 _ (by simp)⟩
    · cases hh
  case putfield k =>
    unfold amLkB at hh
    dsimp only at hh
    split at hh
    · next r er =>
      simp only [Bool.and_eq_true, Bool.or_eq_true, Bool.not_eq_true', decide_eq_true_eq] at hh
      refine ⟨r, er, hh.1.1, amAts_s hh.1.2 _ (by simp), fun hf => ?_⟩
      rcases hh.2 with z | z
      · rw [hf] at z; cases z
      · exact z
    · cases hh
  all_goals exact trivial
noncomputable def amLk2B (G : Nat → Option amM) (X : Nat → Option amN) (own : String) (cc : ByteArray) (pc : Nat) (i : Instr) (a b : Nat) (h : List Nat) : Bool :=
  match i with
  | .new k => if b = 0 then (match vwCl[a]? with
    | some r => amAts h [Jvm.Cond.classLink own k r.1, Jvm.Cond.instantiable r.1 r.2.2, Jvm.Cond.initialized r.1]
    | none => false) else amThrB own cc pc k a b h
  | .newarray t => (match amKind t with
    | some _ => amAts h [Jvm.Cond.arrayClass (newarray.typeOf t)]
    | none => true)
  | .anewarray k => amAts h [Jvm.Cond.classLink own k "TripleTrains$Snapshot"]
  | .invokevirtual k => if b = 7 then amAts h [Jvm.Cond.methodLink own k yJ0_length_8abf5] else if b = 8 then amAts h [Jvm.Cond.methodLink own k yJ0_charAt_5068e] else (match X a, G a with
    | some N, some M => N.2.2.isEmpty && (match vwCl[M.2.2.2.2.2.2]? with
      | some r => decide (N.1.cls = r.1) && amAts h [Jvm.Cond.methodLink own k N.1, Jvm.Cond.instanceMethod N.1, Jvm.Cond.selects r.1 N.1 N.1, Jvm.Cond.initialized r.1, Jvm.Cond.code N.1 N.2.1 M.2.1 M.2.2.2.2.1]
      | none => false) && amMHB N.1 && (match amPar N.1 with
      | some n => decide (M.2.2.1 = n + 1)
      | none => false)
    | _, _ => false)
  | .invokestatic k => if b = 6 then amAts h [Jvm.Cond.methodLink own k arraycopyName, Jvm.Cond.native arraycopyName, Jvm.Cond.static arraycopyName, Jvm.Cond.initialized "java/lang/System"]
      else (match X a, G a with
    | some N, some M => (if b = 0 then N.2.2.isEmpty && amAts h [Jvm.Cond.methodLink own k N.1, Jvm.Cond.static N.1, Jvm.Cond.initialized N.1.cls, Jvm.Cond.code N.1 N.2.1 M.2.1 M.2.2.2.2.1]
        else !N.2.2.isEmpty && amAts h [Jvm.Cond.methodLink own k N.1, Jvm.Cond.static N.1, Jvm.Cond.initialized N.1.cls, Jvm.Cond.codeWith N.1 N.2.1 M.2.1 M.2.2.2.2.1 N.2.2]) && amMHB N.1 && decide (amPar N.1 = some M.2.2.1)
    | _, _ => false)
  | .invokespecial k => if b = 5 then amAts h [Jvm.Cond.methodLink own k Lib.objectInit, Jvm.Cond.instanceMethod Lib.objectInit, Jvm.Cond.code Lib.objectInit ⟨#[0xb1]⟩ 1 none]
      else (match X a, G a, h with
    | some N, some M, h0 :: hs => N.2.2.isEmpty && decide (M.2.2.2.2.1 = none) && (amAt h0 (Jvm.Cond.methodLink own k N.1) || amNestB own k N.1 h0) && amAts hs [Jvm.Cond.instanceMethod N.1, Jvm.Cond.initialized N.1.cls, Jvm.Cond.code N.1 N.2.1 M.2.1 none] && decide (N.1.name = "<init>") && amMHB N.1 && (match amPar N.1 with
      | some n => decide (M.2.2.1 = n + 1)
      | none => false)
    | _, _, _ => false)
  | _ => true
theorem amLk2B_s {G : Nat → Option amM} {X : Nat → Option amN} {own : String} {cc : ByteArray} {pc : Nat} {i : Instr} {a b : Nat} {h : List Nat} (hh : amLk2B G X own cc pc i a b h = true) : amLk2 G X own cc pc i a b := by
  cases i
  case new k =>
    unfold amLk2B at hh
    unfold amLk2
    dsimp only at hh ⊢
    split at hh
    · next e =>
      rw [if_pos e]
      split at hh
      · next r er =>
        have w := amAts_s hh
        exact ⟨r, er, w _ (by simp), w _ (by simp), w _ (by simp)⟩
      · cases hh
    · next e => rw [if_neg e]; exact amThrB_s hh
  case newarray t =>
    intro q hq
    unfold amLk2B at hh
    dsimp only at hh
    rw [hq] at hh
    exact amAts_s hh _ (by simp)
  case anewarray k => exact amAts_s hh _ (by simp)
  case invokevirtual k =>
    unfold amLk2B at hh
    unfold amLk2
    dsimp only at hh ⊢
    split at hh
    · next e7 =>
      rw [if_pos e7]
      exact amAts_s hh _ (by simp)
    · next e7 =>
     rw [if_neg e7]
     split at hh
     · next e8 =>
       rw [if_pos e8]
       exact amAts_s hh _ (by simp)
     · next e8 =>
       rw [if_neg e8]
       split at hh
       · next N M e1 e2 =>
         simp only [Bool.and_eq_true] at hh
         obtain ⟨⟨⟨h1, h2⟩, h3⟩, h4⟩ := hh
         split at h2
         · next r er =>
           simp only [Bool.and_eq_true, decide_eq_true_eq] at h2
           have w := amAts_s h2.2
           split at h4
           · next n en => exact ⟨N, M, r, n, e1, e2, List.isEmpty_iff.mp h1, er, h2.1, w _ (by simp), w _ (by simp), w _ (by simp), w _ (by simp), w _ (by simp), amMHB_s h3, en, of_decide_eq_true h4⟩
           · cases h4
         · cases h2
       · cases hh
  case invokestatic k =>
    unfold amLk2B at hh
    unfold amLk2
    dsimp only at hh ⊢
    split at hh
    · next e =>
      rw [if_pos e]
      have w := amAts_s hh
      exact ⟨w _ (by simp), w _ (by simp), w _ (by simp), w _ (by simp)⟩
    · next e =>
      rw [if_neg e]
      split at hh
      · next N M e1 e2 =>
        simp only [Bool.and_eq_true, decide_eq_true_eq] at hh
        obtain ⟨⟨h1, h2⟩, h3⟩ := hh
        refine ⟨N, M, e1, e2, ?_⟩
        split at h1
        · next e0 =>
          simp only [Bool.and_eq_true] at h1
          have w := amAts_s h1.2
          rw [if_pos e0]
          exact ⟨⟨List.isEmpty_iff.mp h1.1, w _ (by simp)⟩, w _ (by simp), w _ (by simp), w _ (by simp), amMHB_s h2, h3⟩
        · next e0 =>
          simp only [Bool.and_eq_true, Bool.not_eq_true'] at h1
          have w := amAts_s h1.2
          rw [if_neg e0]
          exact ⟨⟨fun z => (by rw [z] at h1; exact absurd h1.1 (by decide)), w _ (by simp)⟩, w _ (by simp), w _ (by simp), w _ (by simp), amMHB_s h2, h3⟩
      · cases hh
  case invokespecial k =>
    unfold amLk2B at hh
    unfold amLk2
    dsimp only at hh ⊢
    split at hh
    · next e =>
      rw [if_pos e]
      have w := amAts_s hh
      exact ⟨w _ (by simp), w _ (by simp), w _ (by simp)⟩
    · next e =>
      rw [if_neg e]
      split at hh
      · next N M h0 hs e1 e2 =>
        simp only [Bool.and_eq_true, decide_eq_true_eq] at hh
        obtain ⟨⟨⟨⟨⟨⟨h1, h2⟩, h3⟩, h4⟩, h5⟩, h6⟩, h7⟩ := hh
        have w := amAts_s h4
        split at h7
        · next n en =>
          refine ⟨N, M, n, e1, e2, List.isEmpty_iff.mp h1, h2, ?_, w _ (by simp), w _ (by simp), w _ (by simp), h5, amMHB_s h6, en, of_decide_eq_true h7⟩
          simp only [Bool.or_eq_true] at h3
          exact h3.imp amAt_s amNestB_s
        · cases h7
      · cases hh
  all_goals exact trivial
/-- handlers, entry by entry -/
noncomputable def amHanB (own : String) (cc : ByteArray) (nL : Nat) : List (Nat × Nat × Nat × Nat × Nat × Nat) → List (Nat × Nat × Nat × Nat) → List (Nat × Nat) → Bool
  | [], [], _ => true
  | h :: r, t :: ts, g :: gs => (match amEx[h.2.2.2.1]? with
      | some En => amAt g.1 (Jvm.Cond.classLink own t.2.2.2 En) && decide (lw_tbl[g.2]? = some (Jvm.Cond.castable En En)) && r.all (fun z => match amEx[z.2.2.2.1]? with
        | some Ez => decide ((Ez, En) ∈ amNc)
        | none => false)
      | none => false) && decide (t.2.2.2 ≠ 0) && decide (h.1 = t.1) && decide (h.2.1 = t.2.1) && decide (h.2.2.1 = t.2.2.1) && decide (h.2.2.2.2.1 < nL) &&
      (match decode cc h.2.2.1 with
        | .ok (.astore_n j, 1) => decide ((j : Nat) = h.2.2.2.2.1) && decide (h.2.2.2.2.2 = h.2.2.1 + 1)
        | .ok (.astore k, 2) => decide (k = h.2.2.2.2.1) && decide (h.2.2.2.2.2 = h.2.2.1 + 2)
        | _ => false) && amHanB own cc nL r ts gs
  | _, _, _ => false
theorem amHand_in {hs : List (Nat × Nat × Nat × Nat × Nat × Nat)} {pc E : Nat} {o : Nat × Nat × Nat} (h : amHand hs pc E = some o) : ∃ z ∈ hs, z.2.2.2.1 = E := by
  induction hs with
  | nil => cases h
  | cons z r ih =>
    unfold amHand at h
    split at h
    · next e => exact ⟨z, List.mem_cons_self, e.2.2⟩
    · obtain ⟨w, h1, h2⟩ := ih h
      exact ⟨w, List.mem_cons_of_mem _ h1, h2⟩
theorem amHanB_s {own : String} {cc : ByteArray} {nL : Nat} : ∀ {hs : List (Nat × Nat × Nat × Nat × Nat × Nat)} {ts : List (Nat × Nat × Nat × Nat)} {gs : List (Nat × Nat)}, amHanB own cc nL hs ts gs = true → ∀ (pc E h x to : Nat) (En : String), amHand hs pc E = some (h, x, to) → amEx[E]? = some En →
    ∃ (pre : List ExceptionTableEntry) (z : ExceptionTableEntry) (suf : List ExceptionTableEntry), tableOf ts = pre ++ z :: suf ∧ (∀ y ∈ pre, covers y pc = false ∨ (y.catchType ≠ 0 ∧ ∃ nm : String, Jvm.Cond.classLink own y.catchType nm ∈ amWL ∧ (En, nm) ∈ amNc)) ∧ covers z pc = true ∧ z.catchType ≠ 0 ∧ z.handlerPc = h ∧
      Jvm.Cond.classLink own z.catchType En ∈ amWL ∧ Jvm.Cond.castable En En ∈ lw_tbl ∧ x < nL ∧ ((∃ j : Fin 4, (j : Nat) = x ∧ decode cc h = .ok (.astore_n j, 1) ∧ to = h + 1) ∨ (decode cc h = .ok (.astore x, 2) ∧ to = h + 2))
  | [], _, _, _, pc, E, h, x, to, En, hh, _ => by cases hh
  | h0 :: r, [], [], hB, _, _, _, _, _, _, _, _ => by cases hB
  | h0 :: r, [], _ :: _, hB, _, _, _, _, _, _, _, _ => by cases hB
  | h0 :: r, t :: ts, [], hB, _, _, _, _, _, _, _, _ => by cases hB
  | h0 :: r, t :: ts, g :: gs, hB, pc, E, h, x, to, En, hh, hE => by
    simp only [amHanB, Bool.and_eq_true, decide_eq_true_eq] at hB
    obtain ⟨⟨⟨⟨⟨⟨⟨b1, b2⟩, b3⟩, b4⟩, b5⟩, b6⟩, b7⟩, b8⟩ := hB
    split at b1
    · next E0 e0 =>
      simp only [Bool.and_eq_true, decide_eq_true_eq] at b1
      obtain ⟨⟨c1, c2⟩, c3⟩ := b1
      unfold amHand at hh
      split at hh
      · next e =>
        obtain ⟨f0, t0, a0, E1, x0, to0⟩ := h0
        dsimp only at e b3 b4 b5 b6 b7 e0 hh
        cases hh
        have : E0 = En := Option.some.inj (e0.symm.trans (by rw [e.2.2]; exact hE))
        subst this
        refine ⟨[], ⟨t.1, t.2.1, t.2.2.1, t.2.2.2⟩, tableOf ts, rfl, (fun y hy => by cases hy), ?_, b2, b5.symm, amAt_s c1, List.mem_of_getElem? c2, b6, ?_⟩
        · simp only [covers, Bool.and_eq_true, decide_eq_true_eq]
          exact ⟨by omega, by omega⟩
        · split at b7
          · next j ej =>
            simp only [Bool.and_eq_true, decide_eq_true_eq] at b7
            exact Or.inl ⟨j, b7.1, ej, b7.2⟩
          · next k ek =>
            simp only [Bool.and_eq_true, decide_eq_true_eq] at b7
            rw [b7.1] at ek
            exact Or.inr ⟨ek, b7.2⟩
          · cases b7
      · next e =>
        obtain ⟨pre, z, suf, g1, g2, g3⟩ := amHanB_s b8 pc E h x to En hh hE
        refine ⟨⟨t.1, t.2.1, t.2.2.1, t.2.2.2⟩ :: pre, z, suf, by rw [List.cons_append, ← g1]; rfl, fun y hy => ?_, g3⟩
        rcases List.mem_cons.mp hy with rfl | hy
        · refine Or.inr ⟨b2, E0, amAt_s c1, ?_⟩
          obtain ⟨w, w1, w2⟩ := amHand_in hh
          have c4 := List.all_eq_true.mp c3 w w1
          rw [w2, hE] at c4
          exact of_decide_eq_true c4
        · exact g2 y hy
    · cases b1
noncomputable def amMkB (N : amN) (M : amM) (gs : List (Nat × Nat)) : Bool := plainFor N.1 && decide (M.2.1 ≤ 100) && (!M.2.2.2.1 || decide (N.1.name = "<init>")) && (!M.2.2.2.2.2.1.isEmpty || N.2.2.isEmpty) && amHanB N.1.cls N.2.1 M.2.1 M.2.2.2.2.2.1 N.2.2 gs
