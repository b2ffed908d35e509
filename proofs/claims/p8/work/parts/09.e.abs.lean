/-! ===== the abstract runs ===== -/
abbrev aX : Type := Option aV ⊕ Nat
def aRx : aX → (Option Value ⊕ Nat) → Prop
  | .inl v, .inl w => aRo v w
  | .inr E, .inr E' => E = E'
  | _, _ => False
abbrev aAct : Type := aK ⊕ aMk ⊕ (List aV → Option (Option aV)) ⊕ Nat ⊕ (Nat × Nat)
def aSp : Instr → Bool
  | .new _ => true
  | .newarray _ => true
  | .anewarray _ => true
  | .invokevirtual _ => true
  | .invokestatic _ => true
  | .invokespecial _ => true
  | .ireturn => true
  | .lreturn => true
  | .freturn => true
  | .dreturn => true
  | .return_ => true
  | _ => false
def aDoS (M : amM) (i : Instr) (a b pc : Nat) : Option aAct := match i with
  | .new _ => if b = 0 then some (.inr (.inl (aMnew (pc + 3) a))) else (match M.2.2.2.2.2.1 with
    | [] => some (.inr (.inr (.inr (.inl a))))
    | _ :: _ => none)
  | .newarray t => some (.inr (.inl (aMarr (pc + 2) (amKind t))))
  | .anewarray _ => some (.inr (.inl (aMarr (pc + 3) (some (35, .null)))))
  | .invokevirtual _ => if b = 7 then none else if b = 8 then none else some (.inr (.inr (.inr (.inr (a, 0)))))
  | .invokestatic _ => if b = 6 then some (.inl (aKcopy (pc + 3))) else some (.inr (.inr (.inr (.inr (a, 1)))))
  | .invokespecial _ => if b = 5 then some (.inl (aKobj (pc + 3))) else some (.inr (.inr (.inr (.inr (a, 2)))))
  | .ireturn => some (.inr (.inr (.inl (aRetI M.2.2.2.2.1))))
  | .lreturn => some (.inr (.inr (.inl (aRetJ M.2.2.2.2.1))))
  | .freturn => some (.inr (.inr (.inl (aRetF M.2.2.2.2.1))))
  | .dreturn => some (.inr (.inr (.inl (aRetD M.2.2.2.2.1))))
  | .return_ => some (.inr (.inr (.inl (aRetN M.2.2.2.2.1))))
  | _ => none
def aDoT (sc : Option (List aV)) (M : amM) (q : Nat × amIn1) : Option aAct := match aSp q.2.1 with
  | true => aDoS M q.2.1 q.2.2.1 q.2.2.2 q.1
  | false => (match aTr sc M.2.1 q.2.1 q.2.2.1 q.2.2.2 q.1 with
    | some act => some (.inl act)
    | none => none)
theorem amDo_step {G : Nat → Option amM} {M : amM} {sc : Option (List Int32)} {i : Instr} (h : aSp i = false) (a b pc : Nat) (ls : amL) (st : List Value) (hp : amH) : amDo G M sc i a b pc ls st hp = (amStep sc M.2.1 i a b pc ls st hp).map (fun r => .inl (r, 0, 0)) := by
  cases i <;> first | rfl | cases h
/-- the arguments: the first n of the stack, the last first -/
def aSplit : Nat → List aV → List aV → Option (List aV × List aV)
  | 0, st, acc => some (acc, st)
  | n + 1, v :: st, acc => aSplit n st (v :: acc)
  | _ + 1, [], _ => none
theorem aSplit_s : ∀ {n : Nat} {st acc av rest : List aV}, aSplit n st acc = some (av, rest) → n ≤ st.length ∧ av = (st.take n).reverse ++ acc ∧ rest = st.drop n
  | 0, st, acc, av, rest, h => by cases h; exact ⟨Nat.zero_le _, rfl, rfl⟩
  | n + 1, v :: st, acc, av, rest, h => by
    obtain ⟨h1, h2, h3⟩ := aSplit_s (n := n) (st := st) (acc := v :: acc) h
    refine ⟨by rw [List.length_cons]; omega, ?_, by rw [h3]; rfl⟩
    rw [h2, List.take_succ_cons, List.reverse_cons, List.append_assoc]
    rfl
  | _ + 1, [], _, _, _, h => by cases h
def aRecv (k ci : Nat) (hp : aH) : List aV → Bool
  | .inl (.ref o) :: _ => (match k with
    | 0 => (match aCell hp o with
      | some c => (match Nat.beq c.1 ci with
        | true => Nat.ble ci 31
        | false => false)
      | none => false)
    | _ + 1 => true)
  | .inl .null :: _ => Nat.beq k 1
  | .inl (.long _) :: _ => Nat.beq k 1
  | .inr _ :: _ => Nat.beq k 1
  | [] => Nat.beq k 1
  | _ => false
theorem aRecv_s {k ci : Nat} {hp : aH} {ch : amH} {av : List aV} {cav : List Value} (h : aRecv k ci hp av = true) (hs : aRs av cav) (hh : aRh hp ch) : amRecv k ci ch cav = true := by
  unfold aRecv at h
  split at h
  · next o r =>
    obtain ⟨w, ws, rfl, hv, hs1⟩ := aRs_cons hs
    cases hv
    split at h
    · split at h
      · next c ec =>
        split at h
        · next e1 =>
          obtain ⟨d, d1, d2⟩ := aCell_s hh ec
          have e3 : d.1 = ci := by rw [← d2.1]; exact Nat.eq_of_beq_eq_true e1
          have e4 : ci < 32 := Nat.lt_succ_of_le (a_le h)
          simp only [amRecv, d1, e3, e4, and_self, decide_true, if_true]
        · cases h
      · cases h
    · simp [amRecv]
  · next r =>
    obtain ⟨w, ws, rfl, hv, hs1⟩ := aRs_cons hs
    cases hv
    simp only [amRecv]
    exact decide_eq_true (Nat.eq_of_beq_eq_true h)
  · next r =>
    obtain ⟨w, ws, rfl, hv, hs1⟩ := aRs_cons hs
    cases hv
    simp only [amRecv]
    exact decide_eq_true (Nat.eq_of_beq_eq_true h)
  · next q r =>
    obtain ⟨w, ws, rfl, ⟨x, rfl, -⟩, hs1⟩ := aRs_cons hs
    simp only [amRecv]
    exact decide_eq_true (Nat.eq_of_beq_eq_true h)
  · cases aRs_nil hs
    simp only [amRecv]
    exact decide_eq_true (Nat.eq_of_beq_eq_true h)
  · cases h
def aArgs (k : Nat) (N : amM) (ls : aL) (st : List aV) (hp : aH) : Option (List aV × List aV) := match aSplit N.2.2.1 st [] with
  | some q => (match Nat.ble (aCs q.1) N.2.1 with
    | true => (match lAll (aOkO hp.1) ls with
      | true => (match lAll (aOk hp.1) q.2 with
        | true => (match aRecv k N.2.2.2.2.2.2 hp q.1 with
          | true => (match Nat.ble (aCs q.2) 8 with
            | true => some q
            | false => none)
          | false => none)
        | false => none)
      | false => none)
    | false => none)
  | none => none
theorem aCs_app : ∀ (a b : List aV), aCs (a ++ b) = aCs a + aCs b
  | [], b => by simp [aCs]
  | v :: a, b => by
    show aCat v + aCs (a ++ b) = aCat v + aCs a + aCs b
    rw [aCs_app a b, Nat.add_assoc]
theorem aCs_rev : ∀ (a : List aV), aCs a.reverse = aCs a
  | [] => rfl
  | v :: a => by
    rw [List.reverse_cons, aCs_app, aCs_rev a]
    show aCs a + (aCat v + 0) = aCat v + aCs a
    omega
theorem aArgs_s {G : Nat → Option amM} {k a : Nat} {N : amM} {ls : aL} {st av rest : List aV} {hp : aH} {cl : amL} {cs : List Value} {ch : amH} (hG : G a = some N) (h : aArgs k N ls st hp = some (av, rest)) (hl : aRl ls cl) (hs : aRs st cs) (hh : aRh hp ch) :
    ∃ cav crest, amCall G k a cl cs ch = some (.inr (.inr (.inr (a, cav, crest)))) ∧ aRs av cav ∧ aRs rest crest := by
  unfold aArgs at h
  split at h
  · next q eq =>
    split at h
    · next e1 =>
      split at h
      · next e2 =>
        split at h
        · next e3 =>
          split at h
          · next e4 =>
            split at h
            · next e5 =>
              cases h
              obtain ⟨h1, h2, h3⟩ := aSplit_s eq
              rw [List.append_nil] at h2
              have r1 : aRs av (cs.take N.2.2.1).reverse := by rw [h2]; exact aRs_rev (aRs_take hs)
              have r2 : aRs rest (cs.drop N.2.2.1) := by rw [h3]; exact aRs_drop hs
              have c1 : ((cs.take N.2.2.1).map fun v => v.category).sum = aCs av := by rw [aRs_cat (aRs_take (n := N.2.2.1) hs), h2, aCs_rev]
              have c2 : ((cs.drop N.2.2.1).map fun v => v.category).sum = aCs rest := aRs_cat r2
              refine ⟨_, _, ?_, r1, r2⟩
              unfold amCall
              rw [hG]
              dsimp only at e1 e2 e3 e4 e5 ⊢
              rw [hh.1] at e2 e3
              rw [if_pos ⟨by rw [← aRs_len hs]; exact h1, by rw [c1]; exact a_le e1, by rw [aOkL_s e2 hl, aOkS_s e3 r2, aRecv_s e4 r1 hh]; rfl, by rw [c2]; exact a_le e5⟩]
            · cases h
          · cases h
        · cases h
      · cases h
    · cases h
  · cases h
def aInit : Nat → List aV → aL
  | n, [] => List.replicate n none
  | n, v :: r => match Nat.beq (aCat v) 2 with
    | true => some v :: none :: aInit (Nat.sub n 2) r
    | false => some v :: aInit (Nat.sub n 1) r
theorem lAt_rep {α : Type} : ∀ (n j : Nat) (v : α), lAt (List.replicate n v) j = none ∨ lAt (List.replicate n v) j = some v
  | 0, j, v => Or.inl rfl
  | n + 1, 0, v => Or.inr rfl
  | n + 1, j + 1, v => lAt_rep n j v
theorem aInit_s : ∀ {av : List aV} {cav : List Value} {n i : Nat}, aRs av cav → (∀ k v, lGet (aInit n av) k = some v → ∃ w, amGet (lv_args i cav) (i + k) = some w ∧ aR v w) ∧ ∀ q ∈ lv_args i cav, i ≤ q.1 ∧ ∃ v, lGet (aInit n av) (q.1 - i) = some v ∧ aR v q.2
  | [], [], n, i, _ => by
    refine ⟨fun k v h => ?_, fun q hq => by cases hq⟩
    unfold aInit lGet at h
    rcases lAt_rep n k (none : Option aV) with z | z <;> rw [z] at h <;> cases h
  | v :: av, w :: cav, n, i, hs => by
    have hc := aR_cat hs.1
    unfold aInit
    split
    · next e =>
      have e := Nat.eq_of_beq_eq_true e
      obtain ⟨h1, h2⟩ := aInit_s (n := Nat.sub n 2) (i := i + 2) hs.2
      have hu : lv_args i (w :: cav) = (i, w) :: lv_args (i + 2) cav := by
        simp only [lv_args]
        rw [if_pos (by rw [hc, e])]
      rw [hu]
      refine ⟨fun k u h => ?_, fun q hq => ?_⟩
      · match k, h with
        | 0, h =>
          cases h
          exact ⟨w, by unfold amGet; exact if_pos rfl, hs.1⟩
        | 1, h => cases h
        | k + 2, h =>
          obtain ⟨x, x1, x2⟩ := h1 k u h
          refine ⟨x, ?_, x2⟩
          unfold amGet
          rw [if_neg (by dsimp only; omega), show i + (k + 2) = i + 2 + k by omega]
          exact x1
      · rcases List.mem_cons.mp hq with rfl | hq
        · exact ⟨Nat.le_refl _, v, by rw [Nat.sub_self]; rfl, hs.1⟩
        · obtain ⟨g1, u, g2, g3⟩ := h2 q hq
          refine ⟨by omega, u, ?_, g3⟩
          rw [show q.1 - i = (q.1 - (i + 2)) + 2 by omega]
          exact g2
    · next e =>
      have e := a_nbeq e
      obtain ⟨h1, h2⟩ := aInit_s (n := Nat.sub n 1) (i := i + 1) hs.2
      have hu : lv_args i (w :: cav) = (i, w) :: lv_args (i + 1) cav := by
        simp only [lv_args]
        rw [if_neg (by rw [hc]; exact e)]
      rw [hu]
      refine ⟨fun k u h => ?_, fun q hq => ?_⟩
      · match k, h with
        | 0, h =>
          cases h
          exact ⟨w, by unfold amGet; exact if_pos rfl, hs.1⟩
        | k + 1, h =>
          obtain ⟨x, x1, x2⟩ := h1 k u h
          refine ⟨x, ?_, x2⟩
          unfold amGet
          rw [if_neg (by dsimp only; omega), show i + (k + 1) = i + 1 + k by omega]
          exact x1
      · rcases List.mem_cons.mp hq with rfl | hq
        · exact ⟨Nat.le_refl _, v, by rw [Nat.sub_self]; rfl, hs.1⟩
        · obtain ⟨g1, u, g2, g3⟩ := h2 q hq
          refine ⟨by omega, u, ?_, g3⟩
          rw [show q.1 - i = (q.1 - (i + 1)) + 1 by omega]
          exact g2
  | [], _ :: _, _, _, h => by cases h
  | _ :: _, [], _, _, h => by cases h
theorem aInit_l {av : List aV} {cav : List Value} {n : Nat} (hs : aRs av cav) : aRl (aInit n av) (lv_args 0 cav) := by
  obtain ⟨h1, h2⟩ := aInit_s (n := n) (i := 0) hs
  exact ⟨fun k v e => by have := h1 k v e; rwa [Nat.zero_add] at this, fun q hq => (h2 q hq).2⟩
def aSeek : amP → Nat → amP
  | [], _ => []
  | q :: r, pc => match Nat.beq q.1 pc with
    | true => q :: r
    | false => aSeek r pc
theorem aSeek_eq : ∀ (cs : amP) (pc : Nat), aSeek cs pc = amSeek cs pc
  | [], _ => rfl
  | q :: r, pc => by
    unfold aSeek amSeek
    rw [List.dropWhile_cons]
    split
    · next e =>
      have e := Nat.eq_of_beq_eq_true e
      rw [if_neg (by simp [e])]
    · next e =>
      have e := a_nbeq e
      rw [if_pos (by simpa using e)]
      exact aSeek_eq r pc
def aNext (M : amM) (cs : amP) (pc : Nat) : amP := match cs with
  | q :: r => (match Nat.beq q.1 pc with
    | true => q :: r
    | false => aSeek M.1 pc)
  | [] => aSeek M.1 pc
theorem aNext_eq (M : amM) (cs : amP) (pc : Nat) : aNext M cs pc = amNext M cs pc := by
  unfold aNext amNext
  split
  · next q r =>
    dsimp only
    split
    · next e => rw [if_pos (Nat.eq_of_beq_eq_true e)]
    · next e => rw [if_neg (a_nbeq e), aSeek_eq]
  · exact aSeek_eq _ _
theorem aNext_suf {M : amM} {cs : amP} {pc : Nat} (h : cs <:+ M.1) : aNext M cs pc <:+ M.1 := by
  have hs : aSeek M.1 pc <:+ M.1 := by
    rw [aSeek_eq]
    exact List.dropWhile_suffix _
  unfold aNext
  split
  · split
    · exact h
    · exact hs
  · exact hs
def aCons : Option aV → List aV → List aV
  | some v, r => v :: r
  | none, r => r
theorem aCons_s {v : Option aV} {w : Option Value} {r : List aV} {cr : List Value} (h : aRo v w) (hr : aRs r cr) : aRs (aCons v r) (w.toList ++ cr) := by
  cases v with
  | none => cases w with
    | none => exact hr
    | some w => cases h
  | some v => cases w with
    | none => cases h
    | some w => exact ⟨h, hr⟩
def aStop : Option Nat → Nat → Bool
  | some p, pc => Nat.beq pc p
  | none, _ => false
/-- a run with bounds: whatever comes of it, K says yes to it (KS, where it stops at sp) -/
def aRun (G : Nat → Option amM) (KS : Nat → aL → List aV → aH → Nat → Nat → Bool) : Nat → Option (List aV) → Option Nat → Nat → amM → amP → Nat → aL → List aV → aH → Nat → Nat → (aX → aH → Nat → Nat → Bool) → Bool
  | 0, _, _, _, _, _, _, _, _, _, _, _, _ => false
  | _ + 1, _, _, _, _, [], _, _, _, _, _, _, _ => false
  | f + 1, sc, sp, d, M, q :: cs, pc, ls, st, hp, kc, ks, K => match Nat.beq q.1 pc with
    | false => false
    | true => (match aStop sp pc with
      | true => KS (f + 1) ls st hp kc ks
      | false => (match aDoT sc M q with
        | none => false
        | some (.inl act) => act (fun pc1 ls1 st1 hp1 => aRun G KS f sc sp d M (aNext M cs pc1) pc1 ls1 st1 hp1 kc ks K) ls st hp
        | some (.inr (.inl act)) => act (fun pc1 ls1 st1 hp1 dk ds => aRun G KS f sc sp d M (aNext M cs pc1) pc1 ls1 st1 hp1 (Nat.add kc dk) (Nat.add ks ds) K) ls st hp
        | some (.inr (.inr (.inl rt))) => (match rt st with
          | some v => K (.inl v) hp kc ks
          | none => false)
        | some (.inr (.inr (.inr (.inl E)))) => (match Nat.ble (aCs st) 8 with
          | true => K (.inr E) hp (Nat.add kc 1) (Nat.add ks 6)
          | false => false)
        | some (.inr (.inr (.inr (.inr o)))) => (match d with
          | 0 => false
          | d' + 1 => (match G o.1 with
            | none => false
            | some N => (match aArgs o.2 N ls st hp with
              | none => false
              | some ar => aRun G KS f none none d' N N.1 0 (aInit N.2.1 ar.1) [] hp 0 0 (fun x hp1 mc ms => match x with
                | .inl v => aRun G KS f sc sp (d' + 1) M (aNext M cs (Nat.add pc 3)) (Nat.add pc 3) ls (aCons v ar.2) hp1 (Nat.add kc mc) (Nat.add ks ms) K
                | .inr E => (match amMay q.2.1 q.2.2.2 with
                  | false => false
                  | true => (match M.2.2.2.2.2.1 with
                    | [] => K (.inr E) hp1 (Nat.add kc mc) (Nat.add ks ms)
                    | h :: hs => (match amHand (h :: hs) pc E with
                      | some (_, y, to) => (match aDrop ls y with
                        | some l1 => aRun G KS f sc sp (d' + 1) M (aSeek M.1 to) to l1 [] hp1 (Nat.add kc mc) (Nat.add ks ms) K
                        | none => false)
                      | none => false)))))))))
/-! ===== the abstract runs are sound ===== -/
def amU (x : Option amAct) : Option amR := match x with
  | some (.inl (r, 0, 0)) => some r
  | _ => none
theorem amU_s {x : Option amAct} {r : amR} (h : amU x = some r) : x = some (.inl (r, 0, 0)) := by
  unfold amU at h
  split at h
  · cases h; rfl
  · cases h
theorem aDoS_k {G : Nat → Option amM} {M : amM} {sc : Option (List Int32)} {i : Instr} {a b pc : Nat} {act : aK} (h : aDoS M i a b pc = some (.inl act)) : aKok act (fun ls st hp => amU (amDo G M sc i a b pc ls st hp)) := by
  cases i
  case invokevirtual n =>
    simp only [aDoS] at h
    split at h
    · cases h
    · split at h <;> cases h
  case invokestatic n =>
    simp only [aDoS] at h
    split at h
    · next e =>
      cases h
      refine aKcopy_ok (fun ls st hp r hc => ?_)
      simp only [amDo, if_pos e, hc]
      rfl
    · cases h
  case invokespecial n =>
    simp only [aDoS] at h
    split at h
    · next e =>
      cases h
      refine aKobj_ok (fun ls st hp r hc => ?_)
      simp only [amDo, if_pos e, hc]
      rfl
    · cases h
  case new n =>
    simp only [aDoS] at h
    split at h
    · cases h
    · split at h <;> cases h
  all_goals (cases h)
theorem aDoS_m {G : Nat → Option amM} {M : amM} {sc : Option (List Int32)} {i : Instr} {a b pc : Nat} {act : aMk} (h : aDoS M i a b pc = some (.inr (.inl act))) : aMok act (fun ls st hp => amDo G M sc i a b pc ls st hp) := by
  cases i
  case invokevirtual n =>
    simp only [aDoS] at h
    split at h
    · cases h
    · split at h <;> cases h
  case invokestatic n =>
    simp only [aDoS] at h
    split at h <;> cases h
  case invokespecial n =>
    simp only [aDoS] at h
    split at h <;> cases h
  case new n =>
    simp only [aDoS] at h
    split at h
    · next e =>
      cases h
      have : (fun ls st hp => amDo G M sc (.new n) a b pc ls st hp) = fun ls st hp => amMake (pc + 3) ls st hp (a, amDef a) := by
        funext ls st hp
        simp only [amDo, if_pos e]
      rw [this]
      exact aMnew_ok
    · split at h <;> cases h
  case newarray t => cases h; exact aMarr_ok
  case anewarray t => cases h; exact aMarr_ok
  all_goals (cases h)
theorem aDoS_r {G : Nat → Option amM} {M : amM} {sc : Option (List Int32)} {i : Instr} {a b pc : Nat} {rt : List aV → Option (Option aV)} (h : aDoS M i a b pc = some (.inr (.inr (.inl rt)))) {st : List aV} {cs : List Value} {v : Option aV} (e : rt st = some v) (hs : aRs st cs) : ∃ w, aRo v w ∧ ∀ ls hp, amDo G M sc i a b pc ls cs hp = some (.inr (.inl w)) := by
  cases i
  case invokevirtual n =>
    simp only [aDoS] at h
    split at h
    · cases h
    · split at h <;> cases h
  case invokestatic n =>
    simp only [aDoS] at h
    split at h <;> cases h
  case invokespecial n =>
    simp only [aDoS] at h
    split at h <;> cases h
  case new n =>
    simp only [aDoS] at h
    split at h
    · cases h
    · split at h <;> cases h
  case ireturn => cases h; obtain ⟨w, w1, w2⟩ := aRetI_ok st cs v e hs; exact ⟨w, w2, fun ls hp => by simp only [amDo, w1]; rfl⟩
  case lreturn => cases h; obtain ⟨w, w1, w2⟩ := aRetJ_ok st cs v e hs; exact ⟨w, w2, fun ls hp => by simp only [amDo, w1]; rfl⟩
  case freturn => cases h; obtain ⟨w, w1, w2⟩ := aRetF_ok st cs v e hs; exact ⟨w, w2, fun ls hp => by simp only [amDo, w1]; rfl⟩
  case dreturn => cases h; obtain ⟨w, w1, w2⟩ := aRetD_ok st cs v e hs; exact ⟨w, w2, fun ls hp => by simp only [amDo, w1]; rfl⟩
  case return_ => cases h; obtain ⟨w, w1, w2⟩ := aRetN_ok st cs v e hs; exact ⟨w, w2, fun ls hp => by simp only [amDo, w1]; rfl⟩
  all_goals (cases h)
theorem aDoS_t {G : Nat → Option amM} {M : amM} {sc : Option (List Int32)} {i : Instr} {a b pc E : Nat} (h : aDoS M i a b pc = some (.inr (.inr (.inr (.inl E))))) {st : List aV} {cs : List Value} (e : aCs st ≤ 8) (hs : aRs st cs) (ls : amL) (hp : amH) : amDo G M sc i a b pc ls cs hp = some (.inr (.inr (.inl E))) := by
  cases i
  case invokevirtual n =>
    simp only [aDoS] at h
    split at h
    · cases h
    · split at h <;> cases h
  case invokestatic n =>
    simp only [aDoS] at h
    split at h <;> cases h
  case invokespecial n =>
    simp only [aDoS] at h
    split at h <;> cases h
  case new n =>
    simp only [aDoS] at h
    split at h
    · cases h
    · next e0 =>
      split at h
      · next e1 =>
        cases h
        simp only [amDo, if_neg e0]
        rw [if_pos ⟨by rw [aRs_cat hs]; exact e, e1⟩]
      · cases h
  all_goals (cases h)
theorem aDoS_c {G : Nat → Option amM} {M : amM} {sc : Option (List Int32)} {i : Instr} {a b pc : Nat} {o : Nat × Nat} (h : aDoS M i a b pc = some (.inr (.inr (.inr (.inr o))))) (ls : amL) (cs : List Value) (hp : amH) : amDo G M sc i a b pc ls cs hp = amCall G o.2 o.1 ls cs hp := by
  cases i
  case invokestatic n =>
    simp only [aDoS] at h
    split at h
    · cases h
    · next e => cases h; simp only [amDo, if_neg e]
  case invokespecial n =>
    simp only [aDoS] at h
    split at h
    · cases h
    · next e => cases h; simp only [amDo, if_neg e]
  case invokevirtual n =>
    simp only [aDoS] at h
    split at h
    · cases h
    · next e7 =>
      split at h
      · cases h
      · next e8 => cases h; simp only [amDo, if_neg e7, if_neg e8]
  case new n =>
    simp only [aDoS] at h
    split at h
    · cases h
    · split at h <;> cases h
  all_goals (cases h)
theorem aDoT_k {G : Nat → Option amM} {M : amM} {sc' : Option (List aV)} {sc : Option (List Int32)} (hsc : aRsc sc' sc) {q : Nat × amIn1} {act : aK} (h : aDoT sc' M q = some (.inl act)) {k : Nat → aL → List aV → aH → Bool} {ls : aL} {st : List aV} {hp : aH} {cl : amL} {cs : List Value} {ch : amH} (e : act k ls st hp = true) (hl : aRl ls cl) (hs : aRs st cs) (hh : aRh hp ch) :
    ∃ (r : amR) (ls' : aL) (st' : List aV) (hp' : aH), amDo G M sc q.2.1 q.2.2.1 q.2.2.2 q.1 cl cs ch = some (.inl (r, 0, 0)) ∧ k r.1 ls' st' hp' = true ∧ aRl ls' r.2.1 ∧ aRs st' r.2.2.1 ∧ aRh hp' r.2.2.2 := by
  unfold aDoT at h
  split at h
  · obtain ⟨r, ls', st', hp', h1, h2⟩ := aDoS_k (G := G) (sc := sc) h k ls st hp cl cs ch e hl hs hh
    exact ⟨r, ls', st', hp', amU_s h1, h2⟩
  · next e0 =>
    split at h
    · next act' e1 =>
      cases h
      obtain ⟨r, ls', st', hp', h1, h2⟩ := aTr_ok hsc e1 k ls st hp cl cs ch e hl hs hh
      exact ⟨r, ls', st', hp', by rw [amDo_step e0, h1]; rfl, h2⟩
    · cases h
theorem aDoT_s {M : amM} {sc' : Option (List aV)} {q : Nat × amIn1} {z : aMk ⊕ (List aV → Option (Option aV)) ⊕ Nat ⊕ (Nat × Nat)} (h : aDoT sc' M q = some (.inr z)) : aDoS M q.2.1 q.2.2.1 q.2.2.2 q.1 = some (.inr z) := by
  unfold aDoT at h
  split at h
  · exact h
  · split at h <;> cases h
def aFin (G : Nat → Option amM) (K : aX → aH → Nat → Nat → Bool) (R : Option amRes) : Prop := ∃ (x : aX) (ah : aH) (mc ms : Nat) (y : Option Value ⊕ Nat) (h : amH), R = some (y, h, mc, ms) ∧ aRx x y ∧ aRh ah h ∧ K x ah mc ms = true
