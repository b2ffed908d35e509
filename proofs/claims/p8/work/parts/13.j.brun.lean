/-! ===== runs over invariants: whole runs ===== -/
abbrev bRt2 : Type := bE → List bV → Option (Option bV)
abbrev bAc : Type := bA ⊕ bRt2 ⊕ Nat ⊕ Nat
def bRetI (ret : Option FieldType) : bRt2 := fun E st => match st with
  | [v] => (match ret with
    | some ty => (match bIsI v with
      | true => (match bFits ty E v with
        | true => some (some v)
        | false => none)
      | false => none)
    | none => none)
  | _ => none
def bRetT (ret : Option FieldType) (ty : FieldType) (t : Nat) : bRt2 := fun _ st => match st with
  | [v] => (match bIs t v with
    | true => if ret = some ty then some (some v) else none
    | false => none)
  | _ => none
def bRetN (ret : Option FieldType) : bRt2 := fun _ st => match st with
  | [] => (match ret with
    | none => some none
    | some _ => none)
  | _ => none
def bRv (n : Nat) (ρ : List Nat) : Option bV → Option Value → Prop
  | none, none => True
  | some v, some w => bR n ρ v w
  | _, _ => False
/-- the length of a word, and its letters -/
def bLenW (pc : Nat) : bA := fun ls st S => match st with
  | .inr (.inr (.inl t)) :: r => (match amWd t with
    | some l => (match Nat.ble (bCs r) 8 with
      | true => (match Nat.ble l.length 100000 with
        | true => some [(pc, ls, .inl (Nat.add l.length 2147483648) :: r, S)]
        | false => none)
      | false => none)
    | none => none)
  | _ => none
def bChrW (pc : Nat) : bA := fun ls st S => match st with
  | i :: .inr (.inr (.inl t)) :: r => (match amWd t with
    | some l => (match bIv S.1 i with
      | some q => (match bRng q l.length with
        | true => (match Nat.ble (bCs r) 8 with
          | true => (match l.all (fun b => Nat.ble 2147483648 (aOff b) && Nat.ble (aOff b) 2147483775) with
            | true => (match bNew S.1 (2147483648, 2147483775) with
              | (v, E') => some [(pc, ls, v :: r, E', S.2)])
            | false => none)
          | false => none)
        | false => none)
      | none => none)
    | none => none)
  | _ => none
def bActI (T : Nat → Option bD) (W : List (Nat × Nat)) (M : amM) (q : Nat × amIn1) : Option bAc := match q.2.1 with
  | .new _ => if q.2.2.2 = 0 then none else (match M.2.2.2.2.2.1 with
    | [] => some (.inr (.inr (.inl q.2.2.1)))
    | _ :: _ => none)
  | .invokevirtual _ => if q.2.2.2 = 7 then some (.inl (bLenW (q.1 + 3))) else if q.2.2.2 = 8 then some (.inl (bChrW (q.1 + 3))) else some (.inr (.inr (.inr 0)))
  | .invokestatic _ => if q.2.2.2 = 6 then some (.inl (bCpyA T W (q.1 + 3))) else some (.inr (.inr (.inr 1)))
  | .ireturn => some (.inr (.inl (bRetI M.2.2.2.2.1)))
  | .lreturn => some (.inr (.inl (bRetT M.2.2.2.2.1 .long 1)))
  | .freturn => some (.inr (.inl (bRetT M.2.2.2.2.1 .float 3)))
  | .dreturn => some (.inr (.inl (bRetT M.2.2.2.2.1 .double 2)))
  | .return_ => some (.inr (.inl (bRetN M.2.2.2.2.1)))
  | i => (match aSp i with
    | true => none
    | false => (match bTr T W M.2.1 i q.2.2.1 q.2.2.2 q.1 with
      | some act => some (.inl act)
      | none => none))
section BAC
variable {n : Nat} {T : Nat → Option bD} {W : List (Nat × Nat)} {G : Nat → Option amM} {M : amM} {q : Nat × amIn1}
theorem bLenW_ok {pc : Nat} {cf : amL → List Value → amH → Option amR} (hcf : ∀ ls st hp r, amLenS pc ls hp st = some (.inl (r, 0, 0)) → cf ls st hp = some r) : bOk n T W (bLenW pc) cf := by
  intro ls st S L ρ cl cs hp e hr
  unfold bLenW at e
  split at e
  · next t r =>
    obtain ⟨w, ws, rfl, hv, hs⟩ := bRs_cons hr.2.1
    split at e
    · next l el =>
      split at e
      · next e8 =>
        split at e
        · next ek =>
          cases e
          have hK : amK ≤ t := by
            obtain ⟨k, rfl, -⟩ := amWd_s el
            exact Nat.le_add_right _ _
          have hw : w = .ref t := by
            rcases hv with ⟨h, -⟩ | ⟨h, -⟩ | ⟨h, -⟩ | ⟨h, -⟩ | ⟨-, h⟩
            · unfold amK at hK; omega
            · unfold amK at hK; omega
            · unfold amK at hK; omega
            · unfold amK at hK; omega
            · exact h
          subst hw
          have h8 : (ws.map fun v => v.category).sum ≤ 8 := by rw [bRs_cat hs]; exact a_le e8
          have hx : aOff (Int32.ofNat l.length) = Nat.add l.length 2147483648 := by
            obtain ⟨x, ex, x1, x2⟩ := a_ofNat (n := l.length) (a_le ek)
            cases ex
            have := bIn_off.mp ⟨x1, x2⟩
            exact Nat.le_antisymm this.2 this.1
          exact ⟨_, hcf _ _ _ (pc, cl, .int (Int32.ofNat l.length) :: ws, hp) (by simp only [amLenS, el, h8, if_true]), bOne rfl (List.prefix_refl _) hr.1 ⟨⟨_, rfl, hx⟩, hs⟩ hr.2.2.1 hr.2.2.2 (bFr.refl _ _)⟩
        · cases e
      · cases e
    · cases e
  · cases e
theorem bChrW_ok {pc : Nat} {cf : amL → List Value → amH → Option amR} (hcf : ∀ ls st hp r, amChrS pc ls hp st = some (.inl (r, 0, 0)) → cf ls st hp = some r) : bOk n T W (bChrW pc) cf := by
  intro ls st S L ρ cl cs hp e hr
  unfold bChrW at e
  split at e
  · next i t r =>
    obtain ⟨wi, ws, rfl, hvi, hsi⟩ := bRs_cons hr.2.1
    obtain ⟨w, ws, rfl, hv, hs⟩ := bRs_cons hsi
    split at e
    · next l el =>
      split at e
      · next q eq =>
        split at e
        · next er =>
          split at e
          · next e8 =>
            split at e
            · next ea =>
              obtain ⟨x, rfl, hx⟩ := bIv_s hr.2.2.1.1 eq hvi
              have hK : amK ≤ t := by
                obtain ⟨k, rfl, -⟩ := amWd_s el
                exact Nat.le_add_right _ _
              have hw : w = .ref t := by
                rcases hv with ⟨h, -⟩ | ⟨h, -⟩ | ⟨h, -⟩ | ⟨h, -⟩ | ⟨-, h⟩
                · unfold amK at hK; omega
                · unfold amK at hK; omega
                · unfold amK at hK; omega
                · unfold amK at hK; omega
                · exact h
              subst hw
              have h8 : (ws.map fun v => v.category).sum ≤ 8 := by rw [bRs_cat hs]; exact a_le e8
              obtain ⟨e3, e4⟩ := bRng_s er
              have hx := bIn_off.mp hx
              have ax := aOff_eq x
              have hxn : (x.toNatClampNeg : Int) = x.toInt := by
                have : x.toNatClampNeg = x.toInt.toNat := rfl
                rw [this]
                omega
              have hlt : x.toNatClampNeg < l.length := by omega
              have hin : amIn x l.length = true := by
                refine decide_eq_true ?_
                rintro (z | z)
                · have := Int32.lt_iff_toInt_lt.mp z
                  have z0 : (0 : Int32).toInt = 0 := by decide
                  omega
                · omega
              have hmem : l.getD x.toNatClampNeg 0 ∈ l := by
                rw [List.getD_eq_getElem?_getD, List.getElem?_eq_getElem hlt]
                exact List.getElem_mem hlt
              have hb := List.all_eq_true.mp ea _ hmem
              rw [Bool.and_eq_true] at hb
              obtain ⟨ρ', h1, h2, h3⟩ := bNew_s (n := n) hr.2.2.1.1 (q := (2147483648, 2147483775)) (x := l.getD x.toNatClampNeg 0) (bIn_off.mpr ⟨a_le hb.1, a_le hb.2⟩)
              split at e
              next v E' ev =>
              rw [ev] at h2 h3
              cases e
              exact ⟨_, hcf _ _ _ (pc, cl, .int (l.getD x.toNatClampNeg 0) :: ws, hp) (by simp only [amChrS, el, hin, h8, and_self, if_true]), bOne rfl h1 (bRl_mono h1 hr.1) ⟨h3, bRs_mono h1 hs⟩ (bRS_ext h1 hr.2.2.1 h2) hr.2.2.2 (bFr.refl _ _)⟩
            · cases e
          · cases e
        · cases e
      · cases e
    · cases e
  · cases e
theorem bActI_k (hn : n ≤ 999999) {act : bA} (h : bActI T W M q = some (.inl act)) : bOk n T W act (fun ls st hp => amU (amDo G M none q.2.1 q.2.2.1 q.2.2.2 q.1 ls st hp)) := by
  obtain ⟨pc, i, a, b⟩ := q
  have hstep : aSp i = false → bTr T W M.2.1 i a b pc = some act → bOk n T W act (fun ls st hp => amU (amDo G M none i a b pc ls st hp)) := by
    intro h1 h2
    have h3 := bTr_s (n := n) hn (sc := none) h2
    intro ls st S L ρ cl cs hp e hr
    obtain ⟨r, g1, g2⟩ := h3 ls st S L ρ cl cs hp e hr
    refine ⟨r, ?_, g2⟩
    dsimp only at g1 ⊢
    rw [amDo_step h1, g1]
    rfl
  cases i
  case invokevirtual k =>
    simp only [bActI] at h
    split at h
    · next e =>
      cases h
      refine bLenW_ok fun ls st hp r e2 => ?_
      dsimp only at e ⊢
      simp only [amDo, e, if_true, e2]
      rfl
    · next e7 =>
      split at h
      · next e =>
        cases h
        refine bChrW_ok fun ls st hp r e2 => ?_
        dsimp only at e e7 ⊢
        simp only [amDo, if_neg e7, e, if_true, e2]
        rfl
      · cases h
  case invokestatic k =>
    simp only [bActI] at h
    split at h
    · next e =>
      cases h
      refine bCpyA_ok fun ls st hp r e2 => ?_
      dsimp only at e ⊢
      simp only [amDo, e, if_true, e2]
      rfl
    · cases h
  case new k =>
    simp only [bActI] at h
    split at h
    · cases h
    · split at h <;> cases h
  all_goals first
    | (cases h; done)
    | (simp only [bActI] at h
       split at h
       · cases h
       · next e1 =>
         split at h
         · next e2 => cases h; exact hstep e1 e2
         · cases h)
theorem bRetI_ok {ρ : List Nat} {E : bE} (hE : bRE ρ E) {ret : Option FieldType} {st : List bV} {cs : List Value} {v : Option bV} (h : bRetI ret E st = some v) (hs : bRs n ρ st cs) : ∃ w, amRetV ret .ireturn cs = some w ∧ bRv n ρ v w := by
  unfold bRetI at h
  split at h
  · next u =>
    obtain ⟨w, ws, rfl, hv, hs1⟩ := bRs_cons hs
    cases bRs_nil hs1
    split at h
    · next ty =>
      split at h
      · next ei =>
        split at h
        · next ef =>
          cases h
          obtain ⟨x, rfl⟩ := bIsI_s ei hv
          have := (bFits_s hE ef hv).1
          exact ⟨some (.int x), by simp only [amRetV, this, if_true], hv⟩
        · cases h
      · cases h
    · cases h
  · cases h
theorem bRetN_ok {ρ : List Nat} {E : bE} {ret : Option FieldType} {st : List bV} {cs : List Value} {v : Option bV} (h : bRetN ret E st = some v) (hs : bRs n ρ st cs) : ∃ w, amRetV ret .return_ cs = some w ∧ bRv n ρ v w := by
  unfold bRetN at h
  split at h
  · cases bRs_nil hs
    split at h
    · cases h; exact ⟨none, rfl, trivial⟩
    · cases h
  · cases h
theorem bRetT_s {ρ : List Nat} {E : bE} {ret : Option FieldType} {ty : FieldType} {t : Nat} {st : List bV} {cs : List Value} {v : Option bV} (h : bRetT ret ty t E st = some v) (hs : bRs n ρ st cs) : ∃ u w, v = some u ∧ cs = [w] ∧ bIs t u = true ∧ bR n ρ u w ∧ ret = some ty := by
  unfold bRetT at h
  split at h
  · next u =>
    obtain ⟨w, ws, rfl, hv, hs1⟩ := bRs_cons hs
    cases bRs_nil hs1
    split at h
    · next ei =>
      split at h
      · next er => cases h; exact ⟨u, w, rfl, rfl, ei, hv, er⟩
      · cases h
    · cases h
  · cases h
theorem bActI_r {rt : bRt2} (h : bActI T W M q = some (.inr (.inl rt))) {ρ : List Nat} {E : bE} (hE : bRE ρ E) {st : List bV} {cs : List Value} {v : Option bV} (e : rt E st = some v) (hs : bRs n ρ st cs) : ∃ w, bRv n ρ v w ∧ ∀ ls hp, amDo G M none q.2.1 q.2.2.1 q.2.2.2 q.1 ls cs hp = some (.inr (.inl w)) := by
  obtain ⟨pc, i, a, b⟩ := q
  cases i
  case invokevirtual k =>
    simp only [bActI] at h
    split at h
    · cases h
    · split at h <;> cases h
  case invokestatic k =>
    simp only [bActI] at h
    split at h <;> cases h
  case new k =>
    simp only [bActI] at h
    split at h
    · cases h
    · split at h <;> cases h
  case ireturn => cases h; obtain ⟨w, w1, w2⟩ := bRetI_ok hE e hs; exact ⟨w, w2, fun ls hp => by simp only [amDo, w1]; rfl⟩
  case lreturn =>
    cases h
    obtain ⟨u, w, rfl, rfl, e1, e2, e3⟩ := bRetT_s e hs
    obtain ⟨x, rfl⟩ := bIs_J e1 e2
    exact ⟨some (.long x), e2, fun ls hp => by simp only [amDo, e3, amRetV]; rfl⟩
  case freturn =>
    cases h
    obtain ⟨u, w, rfl, rfl, e1, e2, e3⟩ := bRetT_s e hs
    obtain ⟨x, rfl, -⟩ := bIs_F e1 e2
    exact ⟨some (.float x), e2, fun ls hp => by simp only [amDo, e3, amRetV]; rfl⟩
  case dreturn =>
    cases h
    obtain ⟨u, w, rfl, rfl, e1, e2, e3⟩ := bRetT_s e hs
    obtain ⟨x, rfl⟩ := bIs_D e1 e2
    exact ⟨some (.double x), e2, fun ls hp => by simp only [amDo, e3, amRetV]; rfl⟩
  case return_ => cases h; obtain ⟨w, w1, w2⟩ := bRetN_ok e hs; exact ⟨w, w2, fun ls hp => by simp only [amDo, w1]; rfl⟩
  all_goals first
    | (cases h; done)
    | (simp only [bActI] at h
       split at h
       · cases h
       · split at h <;> cases h)
theorem bActI_t {E : Nat} (h : bActI T W M q = some (.inr (.inr (.inl E)))) {ρ : List Nat} {st : List bV} {cs : List Value} (e : bCs st ≤ 8) (hs : bRs n ρ st cs) (ls : amL) (hp : amH) : amDo G M none q.2.1 q.2.2.1 q.2.2.2 q.1 ls cs hp = some (.inr (.inr (.inl E))) := by
  obtain ⟨pc, i, a, b⟩ := q
  cases i
  case invokevirtual k =>
    simp only [bActI] at h
    split at h
    · cases h
    · split at h <;> cases h
  case invokestatic k =>
    simp only [bActI] at h
    split at h <;> cases h
  case new k =>
    simp only [bActI] at h
    split at h
    · cases h
    · next e0 =>
      split at h
      · next e1 =>
        cases h
        simp only [amDo, if_neg e0]
        rw [if_pos ⟨by rw [bRs_cat hs]; exact e, e1⟩]
      · cases h
  all_goals first
    | (cases h; done)
    | (simp only [bActI] at h
       split at h
       · cases h
       · split at h <;> cases h)
theorem bActI_c {k : Nat} (h : bActI T W M q = some (.inr (.inr (.inr k)))) (ls : amL) (cs : List Value) (hp : amH) : amDo G M none q.2.1 q.2.2.1 q.2.2.2 q.1 ls cs hp = amCall G k q.2.2.1 ls cs hp := by
  obtain ⟨pc, i, a, b⟩ := q
  cases i
  case invokestatic k =>
    simp only [bActI] at h
    split at h
    · cases h
    · next e => cases h; simp only [amDo, if_neg e]
  case invokevirtual k =>
    simp only [bActI] at h
    split at h
    · cases h
    · next e7 =>
      split at h
      · cases h
      · next e8 => cases h; simp only [amDo, if_neg e7, if_neg e8]
  case new k =>
    simp only [bActI] at h
    split at h
    · cases h
    · split at h <;> cases h
  all_goals first
    | (cases h; done)
    | (simp only [bActI] at h
       split at h
       · cases h
       · split at h <;> cases h)
end BAC
/-! calls -/
def bSplit : Nat → List bV → List bV → Option (List bV × List bV)
  | 0, st, acc => some (acc, st)
  | n + 1, v :: st, acc => bSplit n st (v :: acc)
  | _ + 1, [], _ => none
theorem bSplit_s : ∀ {n : Nat} {st acc av rest : List bV}, bSplit n st acc = some (av, rest) → n ≤ st.length ∧ av = (st.take n).reverse ++ acc ∧ rest = st.drop n
  | 0, st, acc, av, rest, h => by cases h; exact ⟨Nat.zero_le _, rfl, rfl⟩
  | n + 1, v :: st, acc, av, rest, h => by
    obtain ⟨h1, h2, h3⟩ := bSplit_s (n := n) (st := st) (acc := v :: acc) h
    refine ⟨by rw [List.length_cons]; omega, ?_, by rw [h3]; rfl⟩
    rw [h2, List.take_succ_cons, List.reverse_cons, List.append_assoc]
    rfl
  | _ + 1, [], _, _, _, h => by cases h
def bRecv (T : Nat → Option bD) (k ci : Nat) : List bV → Bool
  | .inr (.inr (.inr l)) :: _ => (match k with
    | 0 => (match Nat.ble ci 31 with
      | true => lAll (fun c => match T c with
        | some D => Nat.beq D.1 ci
        | none => false) l
      | false => false)
    | _ + 1 => true)
  | _ => Nat.beq k 1
section BCL
variable {n : Nat} {T : Nat → Option bD} {ρ : List Nat}
theorem bRecv_s {k ci : Nat} {av : List bV} {cav : List Value} {hp : amH} (h : bRecv T k ci av = true) (hs : bRs n ρ av cav) (hH : bHk n T hp) : amRecv k ci hp cav = true := by
  unfold bRecv at h
  split at h
  · next l r =>
    obtain ⟨w, ws, rfl, hv, -⟩ := bRs_cons hs
    obtain ⟨i, rfl, hi, hil⟩ := hv
    split at h
    · split at h
      · next e1 =>
        have h0 := lAll_m h i hil
        split at h0
        · next D eD =>
          obtain ⟨d, g1, g2⟩ := bHk_at hH hi eD
          have h4 : d.1 = ci := by rw [g2.1]; exact Nat.eq_of_beq_eq_true h0
          have h5 : ci < 32 := by have := a_le e1; omega
          simp only [amRecv, g1, h4, h5, and_self, decide_true, if_true]
        · cases h0
      · cases h
    · next m => simp only [amRecv]; rw [if_neg (by omega)]
  · have h := Nat.eq_of_beq_eq_true h
    subst h
    unfold amRecv
    split
    · rfl
    · rfl
def bCArgs (T : Nat → Option bD) (k : Nat) (N : amM) (st : List bV) : Option (List bV × List bV) := match bSplit N.2.2.1 st [] with
  | some q => (match Nat.ble (bCs q.1) N.2.1 with
    | true => (match bRecv T k N.2.2.2.2.2.2 q.1 with
      | true => (match Nat.ble (bCs q.2) 8 with
        | true => some q
        | false => none)
      | false => none)
    | false => none)
  | none => none
theorem bCArgs_s {G : Nat → Option amM} {k a : Nat} {N : amM} {st av rest : List bV} {ls : bL} {cl : amL} {cs : List Value} {hp : amH} (hG : G a = some N) (h : bCArgs T k N st = some (av, rest)) (hl : bRl n ρ ls cl) (hs : bRs n ρ st cs) (hH : bHk n T hp) :
    ∃ cav crest, amCall G k a cl cs hp = some (.inr (.inr (.inr (a, cav, crest)))) ∧ bRs n ρ av cav ∧ bRs n ρ rest crest := by
  unfold bCArgs at h
  split at h
  · next q eq =>
    split at h
    · next e1 =>
      split at h
      · next e4 =>
        split at h
        · next e5 =>
          cases h
          obtain ⟨h1, h2, h3⟩ := bSplit_s eq
          rw [List.append_nil] at h2
          have r1 : bRs n ρ av (cs.take N.2.2.1).reverse := by rw [h2]; exact bRs_rev (bRs_take hs)
          have r2 : bRs n ρ rest (cs.drop N.2.2.1) := by rw [h3]; exact bRs_drop hs
          have c1 : ((cs.take N.2.2.1).map fun v => v.category).sum = bCs av := by rw [bRs_cat (bRs_take (k := N.2.2.1) hs), h2, bCs_rev]
          have c2 : ((cs.drop N.2.2.1).map fun v => v.category).sum = bCs rest := bRs_cat r2
          refine ⟨_, _, ?_, r1, r2⟩
          unfold amCall
          rw [hG]
          dsimp only at e1 e4 e5 ⊢
          rw [if_pos ⟨by rw [← bRs_len hs]; exact h1, by rw [c1]; exact a_le e1, by rw [hH.1, hl.2, bRs_ok r2, bRecv_s e4 r1 hH]; rfl, by rw [c2]; exact a_le e5⟩]
        · cases h
      · cases h
    · cases h
  · cases h
def bInit : Nat → List bV → bL
  | n, [] => List.replicate n none
  | n, v :: r => match Nat.beq (bCat v) 2 with
    | true => some v :: none :: bInit (Nat.sub n 2) r
    | false => some v :: bInit (Nat.sub n 1) r
theorem bInit_s : ∀ {av : List bV} {cav : List Value} {m i : Nat}, bRs n ρ av cav → ∀ k v, bGet (bInit m av) k = some v → ∃ w, amGet (lv_args i cav) (i + k) = some w ∧ bR n ρ v w
  | [], [], m, i, _ => by
    intro k v h
    unfold bInit bGet at h
    rcases lAt_rep m k (none : Option bV) with z | z <;> rw [z] at h <;> cases h
  | v :: av, w :: cav, m, i, hs => by
    have hc := bR_cat hs.1
    unfold bInit
    split
    · next e =>
      have e := Nat.eq_of_beq_eq_true e
      have h1 := bInit_s (m := Nat.sub m 2) (i := i + 2) hs.2
      have hu : lv_args i (w :: cav) = (i, w) :: lv_args (i + 2) cav := by
        simp only [lv_args]
        rw [if_pos (by rw [hc, e])]
      rw [hu]
      intro k u h
      match k, h with
      | 0, h =>
        cases h
        exact ⟨w, by unfold amGet; exact if_pos rfl, hs.1⟩
      | 1, h => cases h
      | k + 2, h =>
        obtain ⟨x, x1, x2⟩ := h1 k u h
        refine ⟨x, ?_, x2⟩
        unfold amGet
        rw [if_neg (by dsimp only; omega), show i + (k + 2) = i + 2 + k by omega]
        exact x1
    · next e =>
      have e := a_nbeq e
      have h1 := bInit_s (m := Nat.sub m 1) (i := i + 1) hs.2
      have hu : lv_args i (w :: cav) = (i, w) :: lv_args (i + 1) cav := by
        simp only [lv_args]
        rw [if_neg (by rw [hc]; exact e)]
      rw [hu]
      intro k u h
      match k, h with
      | 0, h =>
        cases h
        exact ⟨w, by unfold amGet; exact if_pos rfl, hs.1⟩
      | k + 1, h =>
        obtain ⟨x, x1, x2⟩ := h1 k u h
        refine ⟨x, ?_, x2⟩
        unfold amGet
        rw [if_neg (by dsimp only; omega), show i + (k + 1) = i + 1 + k by omega]
        exact x1
  | [], _ :: _, _, _, h => by cases h
  | _ :: _, [], _, _, h => by cases h
theorem lv_args_ok : ∀ {cav : List Value} {i : Nat}, amOkS n cav = true → amOkL n (lv_args i cav) = true
  | [], i, _ => rfl
  | w :: cav, i, h => by
    simp only [amOkS, List.all_cons, Bool.and_eq_true] at h
    simp only [lv_args]
    exact amOkL_cons (lv_args_ok h.2) h.1
theorem bInit_l {av : List bV} {cav : List Value} {m : Nat} (hs : bRs n ρ av cav) : bRl n ρ (bInit m av) (lv_args 0 cav) :=
  ⟨fun k v e => by have := bInit_s (m := m) (i := 0) hs k v e; rwa [Nat.zero_add] at this, lv_args_ok (bRs_ok hs)⟩
def bCons : Option bV → List bV → List bV
  | some v, r => v :: r
  | none, r => r
theorem bCons_s {v : Option bV} {w : Option Value} {r : List bV} {cr : List Value} (h : bRv n ρ v w) (hr : bRs n ρ r cr) : bRs n ρ (bCons v r) (w.toList ++ cr) := by
  match v, w, h with
  | none, none, _ => exact hr
  | some v, some w, h => exact ⟨h, hr⟩
def bRes (E : bE) : Option bY → Option bV × bE
  | none => (none, E)
  | some y => (match bOfY E y with
    | (v, E') => (some v, E'))
theorem bRes_s {E : bE} (hE : bRE ρ E) {y : Option bY} {w : Option Value} (h : bRo n y w) : ∃ ρ', ρ <+: ρ' ∧ bRE ρ' (bRes E y).2 ∧ bRv n ρ' (bRes E y).1 w := by
  match y, w, h with
  | none, none, _ => exact ⟨ρ, List.prefix_refl _, hE, trivial⟩
  | some y, some w, h => exact bOfY_s (n := n) hE h
end BCL
def bPick (T : Nat → Option bD) (n : Nat) (S : bS) (av : List bV) : List bSp → Option bSp
  | [] => none
  | s :: r => (match bArLe S.1 av s.1 with
    | true => (match lAll (bFaLe T n S) s.2.1 with
      | true => some s
      | false => bPick T n S av r)
    | false => bPick T n S av r)
theorem bPick_s {T : Nat → Option bD} {n : Nat} {S : bS} {av : List bV} : ∀ {l : List bSp} {s : bSp}, bPick T n S av l = some s → s ∈ l ∧ bArLe S.1 av s.1 = true ∧ lAll (bFaLe T n S) s.2.1 = true
  | t :: r, s, h => by
    unfold bPick at h
    split at h
    · next e1 =>
      split at h
      · next e2 => cases h; exact ⟨List.mem_cons_self, e1, e2⟩
      · exact ⟨List.mem_cons_of_mem _ (bPick_s h).1, (bPick_s h).2⟩
    · exact ⟨List.mem_cons_of_mem _ (bPick_s h).1, (bPick_s h).2⟩
abbrev bK : Type := (Option bV ⊕ Nat) → bS → Bool
abbrev bAr : Type := Nat → Option (bL → List bV → bS → Bool)
def bNoA : bAr := fun _ => none
/-- what comes of a case of a callee -/
def bCase (W : List (Nat × Nat)) (S : bS) (c : Option bY × List bFa) : Option bV × bS := match bRes S.1 c.1 with
  | (v, E1) => (match bAddF E1 (bFwo W S.2.1) c.2 with
    | (E2, F2) => (v, E2, F2, S.2.2))
/-- a run over invariants: A says where it stops and what holds there, K what holds at its end -/
def bRun (G : Nat → Option amM) (SP : Nat → List bSp) (T : Nat → Option bD) (n : Nat) (Wd W : List (Nat × Nat)) : Nat → Nat → amM → bAr → amP → Nat → bL → List bV → bS → bK → Bool
  | 0, _, _, _, _, _, _, _, _, _ => false
  | _ + 1, _, _, _, [], _, _, _, _, _ => false
  | f + 1, d, M, A, q :: cs, pc, ls, st, S, K => match Nat.beq q.1 pc with
    | false => false
    | true => (match bActI T Wd M q with
      | none => false
      | some (.inl act) => (match act ls st S with
        | none => false
        | some L => lAll (fun g => match A g.1 with
          | some chk => chk g.2.1 g.2.2.1 g.2.2.2
          | none => bRun G SP T n Wd W f d M A (aNext M cs g.1) g.1 g.2.1 g.2.2.1 g.2.2.2 K) L)
      | some (.inr (.inl rt)) => (match rt S.1 st with
        | some v => K (.inl v) S
        | none => false)
      | some (.inr (.inr (.inl E))) => (match Nat.ble (bCs st) 8 with
        | true => K (.inr E) S
        | false => false)
      | some (.inr (.inr (.inr k))) => (match d with
        | 0 => false
        | d' + 1 => (match G q.2.2.1 with
          | none => false
          | some N => (match bCArgs T k N st with
            | none => false
            | some ar => (match SP q.2.2.1 with
              | [] => bRun G SP T n Wd W f d' N bNoA N.1 0 (bInit N.2.1 ar.1) [] S (fun x S1 => match x with
                | .inl v => (match A (Nat.add pc 3) with
                  | some chk => chk ls (bCons v ar.2) S1
                  | none => bRun G SP T n Wd W f (d' + 1) M A (aNext M cs (Nat.add pc 3)) (Nat.add pc 3) ls (bCons v ar.2) S1 K)
                | .inr E => (match amMay q.2.1 q.2.2.2 with
                  | false => false
                  | true => (match M.2.2.2.2.2.1 with
                    | [] => K (.inr E) S1
                    | _ :: _ => false)))
              | s0 :: ss => (match bPick T n S ar.1 (s0 :: ss) with
                | none => false
                | some s => (match Nat.ble s.2.2.1 d' with
                  | false => false
                  | true => (match bWs s.2.2.2.1 W with
                    | false => false
                    | true => (match lAll (fun c => match bCase s.2.2.2.1 S c with
                        | (v, S1) => (match A (Nat.add pc 3) with
                          | some chk => chk ls (bCons v ar.2) S1
                          | none => bRun G SP T n Wd W f (d' + 1) M A (aNext M cs (Nat.add pc 3)) (Nat.add pc 3) ls (bCons v ar.2) S1 K)) s.2.2.2.2.2 with
                      | false => false
                      | true => (match s.2.2.2.2.1 with
                        | [] => true
                        | E :: Es => (match amMay q.2.1 q.2.2.2 with
                          | false => false
                          | true => (match M.2.2.2.2.2.1 with
                            | [] => lAll (fun z => K (.inr z) (S.1, bFwo s.2.2.2.1 S.2.1, S.2.2)) (E :: Es)
                            | _ :: _ => false))))))))))))
